def tab_Ref_choose_c2 : List (Nat × Instr × Nat) := [(86, .invokevirtual 544, 3), (89, .ifCond .eq 8, 3), (92, .iload 6, 2), (94, .goto 5, 3), (97, .iload 4, 2), (99, .istore 4, 2), (101, .iinc 5 1, 3), (104, .goto (-78), 3), (107, .iload 4, 2), (109, .ireturn, 1)]
theorem dt_Ref_choose_c2 (i : Nat) : decode (jm_cod M_Ref_choose) (tab_Ref_choose_c2.getD i (86, .invokevirtual 544, 3)).1 = .ok ((tab_Ref_choose_c2.getD i (86, .invokevirtual 544, 3)).2.1, (tab_Ref_choose_c2.getD i (86, .invokevirtual 544, 3)).2.2) := j_tab (by decide +kernel) i
theorem d_Ref_choose_86 : decode (jm_cod M_Ref_choose) 86 = .ok (.invokevirtual 544, 3) := dt_Ref_choose_c2 0
theorem d_Ref_choose_89 : decode (jm_cod M_Ref_choose) 89 = .ok (.ifCond .eq 8, 3) := dt_Ref_choose_c2 1
theorem d_Ref_choose_92 : decode (jm_cod M_Ref_choose) 92 = .ok (.iload 6, 2) := dt_Ref_choose_c2 2
theorem d_Ref_choose_94 : decode (jm_cod M_Ref_choose) 94 = .ok (.goto 5, 3) := dt_Ref_choose_c2 3
theorem d_Ref_choose_97 : decode (jm_cod M_Ref_choose) 97 = .ok (.iload 4, 2) := dt_Ref_choose_c2 4
theorem d_Ref_choose_99 : decode (jm_cod M_Ref_choose) 99 = .ok (.istore 4, 2) := dt_Ref_choose_c2 5
theorem d_Ref_choose_101 : decode (jm_cod M_Ref_choose) 101 = .ok (.iinc 5 1, 3) := dt_Ref_choose_c2 6
theorem d_Ref_choose_104 : decode (jm_cod M_Ref_choose) 104 = .ok (.goto (-78), 3) := dt_Ref_choose_c2 7
theorem d_Ref_choose_107 : decode (jm_cod M_Ref_choose) 107 = .ok (.iload 4, 2) := dt_Ref_choose_c2 8
theorem d_Ref_choose_109 : decode (jm_cod M_Ref_choose) 109 = .ok (.ireturn, 1) := dt_Ref_choose_c2 9
def tab_Ref_mayWrite_c0 : List (Nat × Instr × Nat) := [(0, .aload_n 0, 1), (1, .iconst 0, 1), (2, .iload_n 1, 1), (3, .iconst 0, 1), (4, .invokevirtual 388, 3), (7, .istore_n 3, 1), (8, .aload_n 0, 1), (9, .getfield 115, 3), (12, .iload_n 3, 1), (13, .iaload, 1), (14, .ifCond .eq 36, 3), (17, .aload_n 0, 1), (18, .aload_n 0, 1), (19, .getfield 106, 3), (22, .iconst 4, 1), (23, .iload_n 3, 1), (24, .imul, 1), (25, .laload, 1), (26, .invokestatic 314, 3), (29, .invokevirtual 523, 3), (32, .iload_n 2, 1), (33, .if_icmp .ne 17, 3), (36, .aload_n 0, 1), (37, .aload_n 0, 1)]
theorem dt_Ref_mayWrite_c0 (i : Nat) : decode (jm_cod M_Ref_mayWrite) (tab_Ref_mayWrite_c0.getD i (0, .aload_n 0, 1)).1 = .ok ((tab_Ref_mayWrite_c0.getD i (0, .aload_n 0, 1)).2.1, (tab_Ref_mayWrite_c0.getD i (0, .aload_n 0, 1)).2.2) := j_tab (by decide +kernel) i
theorem d_Ref_mayWrite_0 : decode (jm_cod M_Ref_mayWrite) 0 = .ok (.aload_n 0, 1) := dt_Ref_mayWrite_c0 0
theorem d_Ref_mayWrite_1 : decode (jm_cod M_Ref_mayWrite) 1 = .ok (.iconst 0, 1) := dt_Ref_mayWrite_c0 1
theorem d_Ref_mayWrite_2 : decode (jm_cod M_Ref_mayWrite) 2 = .ok (.iload_n 1, 1) := dt_Ref_mayWrite_c0 2
theorem d_Ref_mayWrite_3 : decode (jm_cod M_Ref_mayWrite) 3 = .ok (.iconst 0, 1) := dt_Ref_mayWrite_c0 3
theorem d_Ref_mayWrite_4 : decode (jm_cod M_Ref_mayWrite) 4 = .ok (.invokevirtual 388, 3) := dt_Ref_mayWrite_c0 4
theorem d_Ref_mayWrite_7 : decode (jm_cod M_Ref_mayWrite) 7 = .ok (.istore_n 3, 1) := dt_Ref_mayWrite_c0 5
theorem d_Ref_mayWrite_8 : decode (jm_cod M_Ref_mayWrite) 8 = .ok (.aload_n 0, 1) := dt_Ref_mayWrite_c0 6
theorem d_Ref_mayWrite_9 : decode (jm_cod M_Ref_mayWrite) 9 = .ok (.getfield 115, 3) := dt_Ref_mayWrite_c0 7
theorem d_Ref_mayWrite_12 : decode (jm_cod M_Ref_mayWrite) 12 = .ok (.iload_n 3, 1) := dt_Ref_mayWrite_c0 8
theorem d_Ref_mayWrite_13 : decode (jm_cod M_Ref_mayWrite) 13 = .ok (.iaload, 1) := dt_Ref_mayWrite_c0 9
theorem d_Ref_mayWrite_14 : decode (jm_cod M_Ref_mayWrite) 14 = .ok (.ifCond .eq 36, 3) := dt_Ref_mayWrite_c0 10
theorem d_Ref_mayWrite_17 : decode (jm_cod M_Ref_mayWrite) 17 = .ok (.aload_n 0, 1) := dt_Ref_mayWrite_c0 11
theorem d_Ref_mayWrite_18 : decode (jm_cod M_Ref_mayWrite) 18 = .ok (.aload_n 0, 1) := dt_Ref_mayWrite_c0 12
theorem d_Ref_mayWrite_19 : decode (jm_cod M_Ref_mayWrite) 19 = .ok (.getfield 106, 3) := dt_Ref_mayWrite_c0 13
theorem d_Ref_mayWrite_22 : decode (jm_cod M_Ref_mayWrite) 22 = .ok (.iconst 4, 1) := dt_Ref_mayWrite_c0 14
theorem d_Ref_mayWrite_23 : decode (jm_cod M_Ref_mayWrite) 23 = .ok (.iload_n 3, 1) := dt_Ref_mayWrite_c0 15
theorem d_Ref_mayWrite_24 : decode (jm_cod M_Ref_mayWrite) 24 = .ok (.imul, 1) := dt_Ref_mayWrite_c0 16
theorem d_Ref_mayWrite_25 : decode (jm_cod M_Ref_mayWrite) 25 = .ok (.laload, 1) := dt_Ref_mayWrite_c0 17
theorem d_Ref_mayWrite_26 : decode (jm_cod M_Ref_mayWrite) 26 = .ok (.invokestatic 314, 3) := dt_Ref_mayWrite_c0 18
theorem d_Ref_mayWrite_29 : decode (jm_cod M_Ref_mayWrite) 29 = .ok (.invokevirtual 523, 3) := dt_Ref_mayWrite_c0 19
theorem d_Ref_mayWrite_32 : decode (jm_cod M_Ref_mayWrite) 32 = .ok (.iload_n 2, 1) := dt_Ref_mayWrite_c0 20
theorem d_Ref_mayWrite_33 : decode (jm_cod M_Ref_mayWrite) 33 = .ok (.if_icmp .ne 17, 3) := dt_Ref_mayWrite_c0 21
theorem d_Ref_mayWrite_36 : decode (jm_cod M_Ref_mayWrite) 36 = .ok (.aload_n 0, 1) := dt_Ref_mayWrite_c0 22
theorem d_Ref_mayWrite_37 : decode (jm_cod M_Ref_mayWrite) 37 = .ok (.aload_n 0, 1) := dt_Ref_mayWrite_c0 23
def tab_Ref_mayWrite_c1 : List (Nat × Instr × Nat) := [(38, .iconst 1, 1), (39, .iload_n 2, 1), (40, .iconst 0, 1), (41, .invokevirtual 388, 3), (44, .invokevirtual 392, 3), (47, .ifCond .ne 5, 3), (50, .iconst 0, 1), (51, .ireturn, 1), (52, .aload_n 0, 1), (53, .getfield 106, 3), (56, .iconst 4, 1), (57, .iload_n 3, 1), (58, .imul, 1), (59, .laload, 1), (60, .invokestatic 396, 3), (63, .istore 4, 2), (65, .iconst 0, 1), (66, .istore 5, 2), (68, .iconst 1, 1), (69, .istore 6, 2), (71, .iconst 0, 1), (72, .istore 7, 2), (74, .iload 7, 2), (76, .aload_n 0, 1)]
theorem dt_Ref_mayWrite_c1 (i : Nat) : decode (jm_cod M_Ref_mayWrite) (tab_Ref_mayWrite_c1.getD i (38, .iconst 1, 1)).1 = .ok ((tab_Ref_mayWrite_c1.getD i (38, .iconst 1, 1)).2.1, (tab_Ref_mayWrite_c1.getD i (38, .iconst 1, 1)).2.2) := j_tab (by decide +kernel) i
theorem d_Ref_mayWrite_38 : decode (jm_cod M_Ref_mayWrite) 38 = .ok (.iconst 1, 1) := dt_Ref_mayWrite_c1 0
theorem d_Ref_mayWrite_39 : decode (jm_cod M_Ref_mayWrite) 39 = .ok (.iload_n 2, 1) := dt_Ref_mayWrite_c1 1
theorem d_Ref_mayWrite_40 : decode (jm_cod M_Ref_mayWrite) 40 = .ok (.iconst 0, 1) := dt_Ref_mayWrite_c1 2
theorem d_Ref_mayWrite_41 : decode (jm_cod M_Ref_mayWrite) 41 = .ok (.invokevirtual 388, 3) := dt_Ref_mayWrite_c1 3
theorem d_Ref_mayWrite_44 : decode (jm_cod M_Ref_mayWrite) 44 = .ok (.invokevirtual 392, 3) := dt_Ref_mayWrite_c1 4
theorem d_Ref_mayWrite_47 : decode (jm_cod M_Ref_mayWrite) 47 = .ok (.ifCond .ne 5, 3) := dt_Ref_mayWrite_c1 5
theorem d_Ref_mayWrite_50 : decode (jm_cod M_Ref_mayWrite) 50 = .ok (.iconst 0, 1) := dt_Ref_mayWrite_c1 6
theorem d_Ref_mayWrite_51 : decode (jm_cod M_Ref_mayWrite) 51 = .ok (.ireturn, 1) := dt_Ref_mayWrite_c1 7
theorem d_Ref_mayWrite_52 : decode (jm_cod M_Ref_mayWrite) 52 = .ok (.aload_n 0, 1) := dt_Ref_mayWrite_c1 8
theorem d_Ref_mayWrite_53 : decode (jm_cod M_Ref_mayWrite) 53 = .ok (.getfield 106, 3) := dt_Ref_mayWrite_c1 9
theorem d_Ref_mayWrite_56 : decode (jm_cod M_Ref_mayWrite) 56 = .ok (.iconst 4, 1) := dt_Ref_mayWrite_c1 10
theorem d_Ref_mayWrite_57 : decode (jm_cod M_Ref_mayWrite) 57 = .ok (.iload_n 3, 1) := dt_Ref_mayWrite_c1 11
theorem d_Ref_mayWrite_58 : decode (jm_cod M_Ref_mayWrite) 58 = .ok (.imul, 1) := dt_Ref_mayWrite_c1 12
theorem d_Ref_mayWrite_59 : decode (jm_cod M_Ref_mayWrite) 59 = .ok (.laload, 1) := dt_Ref_mayWrite_c1 13
theorem d_Ref_mayWrite_60 : decode (jm_cod M_Ref_mayWrite) 60 = .ok (.invokestatic 396, 3) := dt_Ref_mayWrite_c1 14
theorem d_Ref_mayWrite_63 : decode (jm_cod M_Ref_mayWrite) 63 = .ok (.istore 4, 2) := dt_Ref_mayWrite_c1 15
theorem d_Ref_mayWrite_65 : decode (jm_cod M_Ref_mayWrite) 65 = .ok (.iconst 0, 1) := dt_Ref_mayWrite_c1 16
theorem d_Ref_mayWrite_66 : decode (jm_cod M_Ref_mayWrite) 66 = .ok (.istore 5, 2) := dt_Ref_mayWrite_c1 17
theorem d_Ref_mayWrite_68 : decode (jm_cod M_Ref_mayWrite) 68 = .ok (.iconst 1, 1) := dt_Ref_mayWrite_c1 18
theorem d_Ref_mayWrite_69 : decode (jm_cod M_Ref_mayWrite) 69 = .ok (.istore 6, 2) := dt_Ref_mayWrite_c1 19
theorem d_Ref_mayWrite_71 : decode (jm_cod M_Ref_mayWrite) 71 = .ok (.iconst 0, 1) := dt_Ref_mayWrite_c1 20
theorem d_Ref_mayWrite_72 : decode (jm_cod M_Ref_mayWrite) 72 = .ok (.istore 7, 2) := dt_Ref_mayWrite_c1 21
theorem d_Ref_mayWrite_74 : decode (jm_cod M_Ref_mayWrite) 74 = .ok (.iload 7, 2) := dt_Ref_mayWrite_c1 22
theorem d_Ref_mayWrite_76 : decode (jm_cod M_Ref_mayWrite) 76 = .ok (.aload_n 0, 1) := dt_Ref_mayWrite_c1 23
def tab_Ref_mayWrite_c2 : List (Nat × Instr × Nat) := [(77, .getfield 526, 3), (80, .if_icmp .ge 68, 3), (83, .aload_n 0, 1), (84, .getfield 118, 3), (87, .iload 7, 2), (89, .iaload, 1), (90, .iload_n 1, 1), (91, .if_icmp .ne 51, 3), (94, .iinc 5 1, 3), (97, .iload 6, 2), (99, .ifCond .eq 40, 3), (102, .aload_n 0, 1), (103, .getfield 124, 3), (106, .iload 7, 2), (108, .iaload, 1), (109, .iload_n 2, 1), (110, .if_icmp .eq 25, 3), (113, .aload_n 0, 1), (114, .getfield 121, 3), (117, .iload 7, 2), (119, .iaload, 1), (120, .iload 4, 2), (122, .if_icmp .eq 17, 3), (125, .aload_n 0, 1)]
theorem dt_Ref_mayWrite_c2 (i : Nat) : decode (jm_cod M_Ref_mayWrite) (tab_Ref_mayWrite_c2.getD i (77, .getfield 526, 3)).1 = .ok ((tab_Ref_mayWrite_c2.getD i (77, .getfield 526, 3)).2.1, (tab_Ref_mayWrite_c2.getD i (77, .getfield 526, 3)).2.2) := j_tab (by decide +kernel) i
theorem d_Ref_mayWrite_77 : decode (jm_cod M_Ref_mayWrite) 77 = .ok (.getfield 526, 3) := dt_Ref_mayWrite_c2 0
theorem d_Ref_mayWrite_80 : decode (jm_cod M_Ref_mayWrite) 80 = .ok (.if_icmp .ge 68, 3) := dt_Ref_mayWrite_c2 1
theorem d_Ref_mayWrite_83 : decode (jm_cod M_Ref_mayWrite) 83 = .ok (.aload_n 0, 1) := dt_Ref_mayWrite_c2 2
theorem d_Ref_mayWrite_84 : decode (jm_cod M_Ref_mayWrite) 84 = .ok (.getfield 118, 3) := dt_Ref_mayWrite_c2 3
theorem d_Ref_mayWrite_87 : decode (jm_cod M_Ref_mayWrite) 87 = .ok (.iload 7, 2) := dt_Ref_mayWrite_c2 4
theorem d_Ref_mayWrite_89 : decode (jm_cod M_Ref_mayWrite) 89 = .ok (.iaload, 1) := dt_Ref_mayWrite_c2 5
theorem d_Ref_mayWrite_90 : decode (jm_cod M_Ref_mayWrite) 90 = .ok (.iload_n 1, 1) := dt_Ref_mayWrite_c2 6
theorem d_Ref_mayWrite_91 : decode (jm_cod M_Ref_mayWrite) 91 = .ok (.if_icmp .ne 51, 3) := dt_Ref_mayWrite_c2 7
theorem d_Ref_mayWrite_94 : decode (jm_cod M_Ref_mayWrite) 94 = .ok (.iinc 5 1, 3) := dt_Ref_mayWrite_c2 8
theorem d_Ref_mayWrite_97 : decode (jm_cod M_Ref_mayWrite) 97 = .ok (.iload 6, 2) := dt_Ref_mayWrite_c2 9
theorem d_Ref_mayWrite_99 : decode (jm_cod M_Ref_mayWrite) 99 = .ok (.ifCond .eq 40, 3) := dt_Ref_mayWrite_c2 10
theorem d_Ref_mayWrite_102 : decode (jm_cod M_Ref_mayWrite) 102 = .ok (.aload_n 0, 1) := dt_Ref_mayWrite_c2 11
theorem d_Ref_mayWrite_103 : decode (jm_cod M_Ref_mayWrite) 103 = .ok (.getfield 124, 3) := dt_Ref_mayWrite_c2 12
theorem d_Ref_mayWrite_106 : decode (jm_cod M_Ref_mayWrite) 106 = .ok (.iload 7, 2) := dt_Ref_mayWrite_c2 13
theorem d_Ref_mayWrite_108 : decode (jm_cod M_Ref_mayWrite) 108 = .ok (.iaload, 1) := dt_Ref_mayWrite_c2 14
theorem d_Ref_mayWrite_109 : decode (jm_cod M_Ref_mayWrite) 109 = .ok (.iload_n 2, 1) := dt_Ref_mayWrite_c2 15
theorem d_Ref_mayWrite_110 : decode (jm_cod M_Ref_mayWrite) 110 = .ok (.if_icmp .eq 25, 3) := dt_Ref_mayWrite_c2 16
theorem d_Ref_mayWrite_113 : decode (jm_cod M_Ref_mayWrite) 113 = .ok (.aload_n 0, 1) := dt_Ref_mayWrite_c2 17
theorem d_Ref_mayWrite_114 : decode (jm_cod M_Ref_mayWrite) 114 = .ok (.getfield 121, 3) := dt_Ref_mayWrite_c2 18
theorem d_Ref_mayWrite_117 : decode (jm_cod M_Ref_mayWrite) 117 = .ok (.iload 7, 2) := dt_Ref_mayWrite_c2 19
theorem d_Ref_mayWrite_119 : decode (jm_cod M_Ref_mayWrite) 119 = .ok (.iaload, 1) := dt_Ref_mayWrite_c2 20
theorem d_Ref_mayWrite_120 : decode (jm_cod M_Ref_mayWrite) 120 = .ok (.iload 4, 2) := dt_Ref_mayWrite_c2 21
theorem d_Ref_mayWrite_122 : decode (jm_cod M_Ref_mayWrite) 122 = .ok (.if_icmp .eq 17, 3) := dt_Ref_mayWrite_c2 22
theorem d_Ref_mayWrite_125 : decode (jm_cod M_Ref_mayWrite) 125 = .ok (.aload_n 0, 1) := dt_Ref_mayWrite_c2 23
def tab_Ref_mayWrite_c3 : List (Nat × Instr × Nat) := [(126, .getfield 127, 3), (129, .iload 7, 2), (131, .iaload, 1), (132, .ifCond .ne 7, 3), (135, .iconst 1, 1), (136, .goto 4, 3), (139, .iconst 0, 1), (140, .istore 6, 2), (142, .iinc 7 1, 3), (145, .goto (-71), 3), (148, .iload 6, 2), (150, .ifCond .eq 16, 3), (153, .iload 5, 2), (155, .aload_n 0, 1), (156, .getfield 297, 3), (159, .if_icmp .ge 7, 3), (162, .iconst 1, 1), (163, .goto 4, 3), (166, .iconst 0, 1), (167, .ireturn, 1)]
theorem dt_Ref_mayWrite_c3 (i : Nat) : decode (jm_cod M_Ref_mayWrite) (tab_Ref_mayWrite_c3.getD i (126, .getfield 127, 3)).1 = .ok ((tab_Ref_mayWrite_c3.getD i (126, .getfield 127, 3)).2.1, (tab_Ref_mayWrite_c3.getD i (126, .getfield 127, 3)).2.2) := j_tab (by decide +kernel) i
theorem d_Ref_mayWrite_126 : decode (jm_cod M_Ref_mayWrite) 126 = .ok (.getfield 127, 3) := dt_Ref_mayWrite_c3 0
theorem d_Ref_mayWrite_129 : decode (jm_cod M_Ref_mayWrite) 129 = .ok (.iload 7, 2) := dt_Ref_mayWrite_c3 1
theorem d_Ref_mayWrite_131 : decode (jm_cod M_Ref_mayWrite) 131 = .ok (.iaload, 1) := dt_Ref_mayWrite_c3 2
theorem d_Ref_mayWrite_132 : decode (jm_cod M_Ref_mayWrite) 132 = .ok (.ifCond .ne 7, 3) := dt_Ref_mayWrite_c3 3
theorem d_Ref_mayWrite_135 : decode (jm_cod M_Ref_mayWrite) 135 = .ok (.iconst 1, 1) := dt_Ref_mayWrite_c3 4
theorem d_Ref_mayWrite_136 : decode (jm_cod M_Ref_mayWrite) 136 = .ok (.goto 4, 3) := dt_Ref_mayWrite_c3 5
theorem d_Ref_mayWrite_139 : decode (jm_cod M_Ref_mayWrite) 139 = .ok (.iconst 0, 1) := dt_Ref_mayWrite_c3 6
theorem d_Ref_mayWrite_140 : decode (jm_cod M_Ref_mayWrite) 140 = .ok (.istore 6, 2) := dt_Ref_mayWrite_c3 7
theorem d_Ref_mayWrite_142 : decode (jm_cod M_Ref_mayWrite) 142 = .ok (.iinc 7 1, 3) := dt_Ref_mayWrite_c3 8
theorem d_Ref_mayWrite_145 : decode (jm_cod M_Ref_mayWrite) 145 = .ok (.goto (-71), 3) := dt_Ref_mayWrite_c3 9
theorem d_Ref_mayWrite_148 : decode (jm_cod M_Ref_mayWrite) 148 = .ok (.iload 6, 2) := dt_Ref_mayWrite_c3 10
theorem d_Ref_mayWrite_150 : decode (jm_cod M_Ref_mayWrite) 150 = .ok (.ifCond .eq 16, 3) := dt_Ref_mayWrite_c3 11
theorem d_Ref_mayWrite_153 : decode (jm_cod M_Ref_mayWrite) 153 = .ok (.iload 5, 2) := dt_Ref_mayWrite_c3 12
theorem d_Ref_mayWrite_155 : decode (jm_cod M_Ref_mayWrite) 155 = .ok (.aload_n 0, 1) := dt_Ref_mayWrite_c3 13
theorem d_Ref_mayWrite_156 : decode (jm_cod M_Ref_mayWrite) 156 = .ok (.getfield 297, 3) := dt_Ref_mayWrite_c3 14
theorem d_Ref_mayWrite_159 : decode (jm_cod M_Ref_mayWrite) 159 = .ok (.if_icmp .ge 7, 3) := dt_Ref_mayWrite_c3 15
theorem d_Ref_mayWrite_162 : decode (jm_cod M_Ref_mayWrite) 162 = .ok (.iconst 1, 1) := dt_Ref_mayWrite_c3 16
theorem d_Ref_mayWrite_163 : decode (jm_cod M_Ref_mayWrite) 163 = .ok (.goto 4, 3) := dt_Ref_mayWrite_c3 17
theorem d_Ref_mayWrite_166 : decode (jm_cod M_Ref_mayWrite) 166 = .ok (.iconst 0, 1) := dt_Ref_mayWrite_c3 18
theorem d_Ref_mayWrite_167 : decode (jm_cod M_Ref_mayWrite) 167 = .ok (.ireturn, 1) := dt_Ref_mayWrite_c3 19
def tab_Ref_targetOf_c0 : List (Nat × Instr × Nat) := [(0, .aload_n 0, 1), (1, .getfield 7, 3), (4, .iload_n 1, 1), (5, .sipush 4096, 3), (8, .idiv, 1), (9, .iaload, 1), (10, .istore_n 2, 1), (11, .iload_n 2, 1), (12, .iconst (-1), 1), (13, .if_icmp .ne 10, 3), (16, .aload_n 0, 1), (17, .getfield 294, 3), (20, .goto 4, 3), (23, .iload_n 2, 1), (24, .ireturn, 1)]
theorem dt_Ref_targetOf_c0 (i : Nat) : decode (jm_cod M_Ref_targetOf) (tab_Ref_targetOf_c0.getD i (0, .aload_n 0, 1)).1 = .ok ((tab_Ref_targetOf_c0.getD i (0, .aload_n 0, 1)).2.1, (tab_Ref_targetOf_c0.getD i (0, .aload_n 0, 1)).2.2) := j_tab (by decide +kernel) i
theorem d_Ref_targetOf_0 : decode (jm_cod M_Ref_targetOf) 0 = .ok (.aload_n 0, 1) := dt_Ref_targetOf_c0 0
theorem d_Ref_targetOf_1 : decode (jm_cod M_Ref_targetOf) 1 = .ok (.getfield 7, 3) := dt_Ref_targetOf_c0 1
theorem d_Ref_targetOf_4 : decode (jm_cod M_Ref_targetOf) 4 = .ok (.iload_n 1, 1) := dt_Ref_targetOf_c0 2
theorem d_Ref_targetOf_5 : decode (jm_cod M_Ref_targetOf) 5 = .ok (.sipush 4096, 3) := dt_Ref_targetOf_c0 3
theorem d_Ref_targetOf_8 : decode (jm_cod M_Ref_targetOf) 8 = .ok (.idiv, 1) := dt_Ref_targetOf_c0 4
theorem d_Ref_targetOf_9 : decode (jm_cod M_Ref_targetOf) 9 = .ok (.iaload, 1) := dt_Ref_targetOf_c0 5
theorem d_Ref_targetOf_10 : decode (jm_cod M_Ref_targetOf) 10 = .ok (.istore_n 2, 1) := dt_Ref_targetOf_c0 6
theorem d_Ref_targetOf_11 : decode (jm_cod M_Ref_targetOf) 11 = .ok (.iload_n 2, 1) := dt_Ref_targetOf_c0 7
theorem d_Ref_targetOf_12 : decode (jm_cod M_Ref_targetOf) 12 = .ok (.iconst (-1), 1) := dt_Ref_targetOf_c0 8
theorem d_Ref_targetOf_13 : decode (jm_cod M_Ref_targetOf) 13 = .ok (.if_icmp .ne 10, 3) := dt_Ref_targetOf_c0 9
theorem d_Ref_targetOf_16 : decode (jm_cod M_Ref_targetOf) 16 = .ok (.aload_n 0, 1) := dt_Ref_targetOf_c0 10
theorem d_Ref_targetOf_17 : decode (jm_cod M_Ref_targetOf) 17 = .ok (.getfield 294, 3) := dt_Ref_targetOf_c0 11
theorem d_Ref_targetOf_20 : decode (jm_cod M_Ref_targetOf) 20 = .ok (.goto 4, 3) := dt_Ref_targetOf_c0 12
theorem d_Ref_targetOf_23 : decode (jm_cod M_Ref_targetOf) 23 = .ok (.iload_n 2, 1) := dt_Ref_targetOf_c0 13
theorem d_Ref_targetOf_24 : decode (jm_cod M_Ref_targetOf) 24 = .ok (.ireturn, 1) := dt_Ref_targetOf_c0 14
def tab_Ref_mayRead_c0 : List (Nat × Instr × Nat) := [(0, .aload_n 0, 1), (1, .iconst 0, 1), (2, .iload_n 1, 1), (3, .iconst 3, 1), (4, .invokevirtual 388, 3), (7, .istore_n 3, 1), (8, .aload_n 0, 1), (9, .getfield 115, 3), (12, .iload_n 3, 1), (13, .iaload, 1), (14, .ifCond .eq 36, 3), (17, .aload_n 0, 1), (18, .aload_n 0, 1), (19, .getfield 106, 3), (22, .iconst 4, 1), (23, .iload_n 3, 1), (24, .imul, 1), (25, .laload, 1), (26, .invokestatic 314, 3), (29, .invokevirtual 523, 3), (32, .iload_n 2, 1), (33, .if_icmp .ne 17, 3), (36, .aload_n 0, 1), (37, .aload_n 0, 1)]
theorem dt_Ref_mayRead_c0 (i : Nat) : decode (jm_cod M_Ref_mayRead) (tab_Ref_mayRead_c0.getD i (0, .aload_n 0, 1)).1 = .ok ((tab_Ref_mayRead_c0.getD i (0, .aload_n 0, 1)).2.1, (tab_Ref_mayRead_c0.getD i (0, .aload_n 0, 1)).2.2) := j_tab (by decide +kernel) i
theorem d_Ref_mayRead_0 : decode (jm_cod M_Ref_mayRead) 0 = .ok (.aload_n 0, 1) := dt_Ref_mayRead_c0 0
theorem d_Ref_mayRead_1 : decode (jm_cod M_Ref_mayRead) 1 = .ok (.iconst 0, 1) := dt_Ref_mayRead_c0 1
theorem d_Ref_mayRead_2 : decode (jm_cod M_Ref_mayRead) 2 = .ok (.iload_n 1, 1) := dt_Ref_mayRead_c0 2
theorem d_Ref_mayRead_3 : decode (jm_cod M_Ref_mayRead) 3 = .ok (.iconst 3, 1) := dt_Ref_mayRead_c0 3
theorem d_Ref_mayRead_4 : decode (jm_cod M_Ref_mayRead) 4 = .ok (.invokevirtual 388, 3) := dt_Ref_mayRead_c0 4
theorem d_Ref_mayRead_7 : decode (jm_cod M_Ref_mayRead) 7 = .ok (.istore_n 3, 1) := dt_Ref_mayRead_c0 5
theorem d_Ref_mayRead_8 : decode (jm_cod M_Ref_mayRead) 8 = .ok (.aload_n 0, 1) := dt_Ref_mayRead_c0 6
theorem d_Ref_mayRead_9 : decode (jm_cod M_Ref_mayRead) 9 = .ok (.getfield 115, 3) := dt_Ref_mayRead_c0 7
theorem d_Ref_mayRead_12 : decode (jm_cod M_Ref_mayRead) 12 = .ok (.iload_n 3, 1) := dt_Ref_mayRead_c0 8
theorem d_Ref_mayRead_13 : decode (jm_cod M_Ref_mayRead) 13 = .ok (.iaload, 1) := dt_Ref_mayRead_c0 9
theorem d_Ref_mayRead_14 : decode (jm_cod M_Ref_mayRead) 14 = .ok (.ifCond .eq 36, 3) := dt_Ref_mayRead_c0 10
theorem d_Ref_mayRead_17 : decode (jm_cod M_Ref_mayRead) 17 = .ok (.aload_n 0, 1) := dt_Ref_mayRead_c0 11
theorem d_Ref_mayRead_18 : decode (jm_cod M_Ref_mayRead) 18 = .ok (.aload_n 0, 1) := dt_Ref_mayRead_c0 12
theorem d_Ref_mayRead_19 : decode (jm_cod M_Ref_mayRead) 19 = .ok (.getfield 106, 3) := dt_Ref_mayRead_c0 13
theorem d_Ref_mayRead_22 : decode (jm_cod M_Ref_mayRead) 22 = .ok (.iconst 4, 1) := dt_Ref_mayRead_c0 14
theorem d_Ref_mayRead_23 : decode (jm_cod M_Ref_mayRead) 23 = .ok (.iload_n 3, 1) := dt_Ref_mayRead_c0 15
theorem d_Ref_mayRead_24 : decode (jm_cod M_Ref_mayRead) 24 = .ok (.imul, 1) := dt_Ref_mayRead_c0 16
theorem d_Ref_mayRead_25 : decode (jm_cod M_Ref_mayRead) 25 = .ok (.laload, 1) := dt_Ref_mayRead_c0 17
theorem d_Ref_mayRead_26 : decode (jm_cod M_Ref_mayRead) 26 = .ok (.invokestatic 314, 3) := dt_Ref_mayRead_c0 18
theorem d_Ref_mayRead_29 : decode (jm_cod M_Ref_mayRead) 29 = .ok (.invokevirtual 523, 3) := dt_Ref_mayRead_c0 19
theorem d_Ref_mayRead_32 : decode (jm_cod M_Ref_mayRead) 32 = .ok (.iload_n 2, 1) := dt_Ref_mayRead_c0 20
theorem d_Ref_mayRead_33 : decode (jm_cod M_Ref_mayRead) 33 = .ok (.if_icmp .ne 17, 3) := dt_Ref_mayRead_c0 21
theorem d_Ref_mayRead_36 : decode (jm_cod M_Ref_mayRead) 36 = .ok (.aload_n 0, 1) := dt_Ref_mayRead_c0 22
theorem d_Ref_mayRead_37 : decode (jm_cod M_Ref_mayRead) 37 = .ok (.aload_n 0, 1) := dt_Ref_mayRead_c0 23
def tab_Ref_mayRead_c1 : List (Nat × Instr × Nat) := [(38, .iconst 1, 1), (39, .iload_n 2, 1), (40, .iconst 3, 1), (41, .invokevirtual 388, 3), (44, .invokevirtual 392, 3), (47, .ifCond .ne 5, 3), (50, .iconst 0, 1), (51, .ireturn, 1), (52, .aload_n 0, 1), (53, .getfield 106, 3), (56, .iconst 4, 1), (57, .iload_n 3, 1), (58, .imul, 1), (59, .laload, 1), (60, .invokestatic 396, 3), (63, .istore 4, 2), (65, .iconst 0, 1), (66, .istore 5, 2), (68, .iconst 1, 1), (69, .istore 6, 2), (71, .iconst 0, 1), (72, .istore 7, 2), (74, .iload 7, 2), (76, .aload_n 0, 1)]
theorem dt_Ref_mayRead_c1 (i : Nat) : decode (jm_cod M_Ref_mayRead) (tab_Ref_mayRead_c1.getD i (38, .iconst 1, 1)).1 = .ok ((tab_Ref_mayRead_c1.getD i (38, .iconst 1, 1)).2.1, (tab_Ref_mayRead_c1.getD i (38, .iconst 1, 1)).2.2) := j_tab (by decide +kernel) i
theorem d_Ref_mayRead_38 : decode (jm_cod M_Ref_mayRead) 38 = .ok (.iconst 1, 1) := dt_Ref_mayRead_c1 0
theorem d_Ref_mayRead_39 : decode (jm_cod M_Ref_mayRead) 39 = .ok (.iload_n 2, 1) := dt_Ref_mayRead_c1 1
theorem d_Ref_mayRead_40 : decode (jm_cod M_Ref_mayRead) 40 = .ok (.iconst 3, 1) := dt_Ref_mayRead_c1 2
theorem d_Ref_mayRead_41 : decode (jm_cod M_Ref_mayRead) 41 = .ok (.invokevirtual 388, 3) := dt_Ref_mayRead_c1 3
theorem d_Ref_mayRead_44 : decode (jm_cod M_Ref_mayRead) 44 = .ok (.invokevirtual 392, 3) := dt_Ref_mayRead_c1 4
theorem d_Ref_mayRead_47 : decode (jm_cod M_Ref_mayRead) 47 = .ok (.ifCond .ne 5, 3) := dt_Ref_mayRead_c1 5
theorem d_Ref_mayRead_50 : decode (jm_cod M_Ref_mayRead) 50 = .ok (.iconst 0, 1) := dt_Ref_mayRead_c1 6
theorem d_Ref_mayRead_51 : decode (jm_cod M_Ref_mayRead) 51 = .ok (.ireturn, 1) := dt_Ref_mayRead_c1 7
theorem d_Ref_mayRead_52 : decode (jm_cod M_Ref_mayRead) 52 = .ok (.aload_n 0, 1) := dt_Ref_mayRead_c1 8
theorem d_Ref_mayRead_53 : decode (jm_cod M_Ref_mayRead) 53 = .ok (.getfield 106, 3) := dt_Ref_mayRead_c1 9
theorem d_Ref_mayRead_56 : decode (jm_cod M_Ref_mayRead) 56 = .ok (.iconst 4, 1) := dt_Ref_mayRead_c1 10
theorem d_Ref_mayRead_57 : decode (jm_cod M_Ref_mayRead) 57 = .ok (.iload_n 3, 1) := dt_Ref_mayRead_c1 11
theorem d_Ref_mayRead_58 : decode (jm_cod M_Ref_mayRead) 58 = .ok (.imul, 1) := dt_Ref_mayRead_c1 12
theorem d_Ref_mayRead_59 : decode (jm_cod M_Ref_mayRead) 59 = .ok (.laload, 1) := dt_Ref_mayRead_c1 13
theorem d_Ref_mayRead_60 : decode (jm_cod M_Ref_mayRead) 60 = .ok (.invokestatic 396, 3) := dt_Ref_mayRead_c1 14
theorem d_Ref_mayRead_63 : decode (jm_cod M_Ref_mayRead) 63 = .ok (.istore 4, 2) := dt_Ref_mayRead_c1 15
theorem d_Ref_mayRead_65 : decode (jm_cod M_Ref_mayRead) 65 = .ok (.iconst 0, 1) := dt_Ref_mayRead_c1 16
theorem d_Ref_mayRead_66 : decode (jm_cod M_Ref_mayRead) 66 = .ok (.istore 5, 2) := dt_Ref_mayRead_c1 17
theorem d_Ref_mayRead_68 : decode (jm_cod M_Ref_mayRead) 68 = .ok (.iconst 1, 1) := dt_Ref_mayRead_c1 18
theorem d_Ref_mayRead_69 : decode (jm_cod M_Ref_mayRead) 69 = .ok (.istore 6, 2) := dt_Ref_mayRead_c1 19
theorem d_Ref_mayRead_71 : decode (jm_cod M_Ref_mayRead) 71 = .ok (.iconst 0, 1) := dt_Ref_mayRead_c1 20
theorem d_Ref_mayRead_72 : decode (jm_cod M_Ref_mayRead) 72 = .ok (.istore 7, 2) := dt_Ref_mayRead_c1 21
theorem d_Ref_mayRead_74 : decode (jm_cod M_Ref_mayRead) 74 = .ok (.iload 7, 2) := dt_Ref_mayRead_c1 22
theorem d_Ref_mayRead_76 : decode (jm_cod M_Ref_mayRead) 76 = .ok (.aload_n 0, 1) := dt_Ref_mayRead_c1 23
def tab_Ref_mayRead_c2 : List (Nat × Instr × Nat) := [(77, .getfield 529, 3), (80, .if_icmp .ge 58, 3), (83, .aload_n 0, 1), (84, .getfield 130, 3), (87, .iload 7, 2), (89, .iaload, 1), (90, .iload_n 1, 1), (91, .if_icmp .ne 41, 3), (94, .iinc 5 1, 3), (97, .iload 6, 2), (99, .ifCond .eq 30, 3), (102, .aload_n 0, 1), (103, .getfield 136, 3), (106, .iload 7, 2), (108, .iaload, 1), (109, .iload_n 2, 1), (110, .if_icmp .eq 15, 3), (113, .aload_n 0, 1), (114, .getfield 133, 3), (117, .iload 7, 2), (119, .iaload, 1), (120, .iload 4, 2), (122, .if_icmp .eq 7, 3), (125, .iconst 1, 1)]
theorem dt_Ref_mayRead_c2 (i : Nat) : decode (jm_cod M_Ref_mayRead) (tab_Ref_mayRead_c2.getD i (77, .getfield 529, 3)).1 = .ok ((tab_Ref_mayRead_c2.getD i (77, .getfield 529, 3)).2.1, (tab_Ref_mayRead_c2.getD i (77, .getfield 529, 3)).2.2) := j_tab (by decide +kernel) i
theorem d_Ref_mayRead_77 : decode (jm_cod M_Ref_mayRead) 77 = .ok (.getfield 529, 3) := dt_Ref_mayRead_c2 0
theorem d_Ref_mayRead_80 : decode (jm_cod M_Ref_mayRead) 80 = .ok (.if_icmp .ge 58, 3) := dt_Ref_mayRead_c2 1
theorem d_Ref_mayRead_83 : decode (jm_cod M_Ref_mayRead) 83 = .ok (.aload_n 0, 1) := dt_Ref_mayRead_c2 2
theorem d_Ref_mayRead_84 : decode (jm_cod M_Ref_mayRead) 84 = .ok (.getfield 130, 3) := dt_Ref_mayRead_c2 3
theorem d_Ref_mayRead_87 : decode (jm_cod M_Ref_mayRead) 87 = .ok (.iload 7, 2) := dt_Ref_mayRead_c2 4
theorem d_Ref_mayRead_89 : decode (jm_cod M_Ref_mayRead) 89 = .ok (.iaload, 1) := dt_Ref_mayRead_c2 5
theorem d_Ref_mayRead_90 : decode (jm_cod M_Ref_mayRead) 90 = .ok (.iload_n 1, 1) := dt_Ref_mayRead_c2 6
theorem d_Ref_mayRead_91 : decode (jm_cod M_Ref_mayRead) 91 = .ok (.if_icmp .ne 41, 3) := dt_Ref_mayRead_c2 7
theorem d_Ref_mayRead_94 : decode (jm_cod M_Ref_mayRead) 94 = .ok (.iinc 5 1, 3) := dt_Ref_mayRead_c2 8
theorem d_Ref_mayRead_97 : decode (jm_cod M_Ref_mayRead) 97 = .ok (.iload 6, 2) := dt_Ref_mayRead_c2 9
theorem d_Ref_mayRead_99 : decode (jm_cod M_Ref_mayRead) 99 = .ok (.ifCond .eq 30, 3) := dt_Ref_mayRead_c2 10
theorem d_Ref_mayRead_102 : decode (jm_cod M_Ref_mayRead) 102 = .ok (.aload_n 0, 1) := dt_Ref_mayRead_c2 11
theorem d_Ref_mayRead_103 : decode (jm_cod M_Ref_mayRead) 103 = .ok (.getfield 136, 3) := dt_Ref_mayRead_c2 12
theorem d_Ref_mayRead_106 : decode (jm_cod M_Ref_mayRead) 106 = .ok (.iload 7, 2) := dt_Ref_mayRead_c2 13
theorem d_Ref_mayRead_108 : decode (jm_cod M_Ref_mayRead) 108 = .ok (.iaload, 1) := dt_Ref_mayRead_c2 14
theorem d_Ref_mayRead_109 : decode (jm_cod M_Ref_mayRead) 109 = .ok (.iload_n 2, 1) := dt_Ref_mayRead_c2 15
theorem d_Ref_mayRead_110 : decode (jm_cod M_Ref_mayRead) 110 = .ok (.if_icmp .eq 15, 3) := dt_Ref_mayRead_c2 16
theorem d_Ref_mayRead_113 : decode (jm_cod M_Ref_mayRead) 113 = .ok (.aload_n 0, 1) := dt_Ref_mayRead_c2 17
theorem d_Ref_mayRead_114 : decode (jm_cod M_Ref_mayRead) 114 = .ok (.getfield 133, 3) := dt_Ref_mayRead_c2 18
theorem d_Ref_mayRead_117 : decode (jm_cod M_Ref_mayRead) 117 = .ok (.iload 7, 2) := dt_Ref_mayRead_c2 19
theorem d_Ref_mayRead_119 : decode (jm_cod M_Ref_mayRead) 119 = .ok (.iaload, 1) := dt_Ref_mayRead_c2 20
theorem d_Ref_mayRead_120 : decode (jm_cod M_Ref_mayRead) 120 = .ok (.iload 4, 2) := dt_Ref_mayRead_c2 21
theorem d_Ref_mayRead_122 : decode (jm_cod M_Ref_mayRead) 122 = .ok (.if_icmp .eq 7, 3) := dt_Ref_mayRead_c2 22
theorem d_Ref_mayRead_125 : decode (jm_cod M_Ref_mayRead) 125 = .ok (.iconst 1, 1) := dt_Ref_mayRead_c2 23
def tab_Ref_mayRead_c3 : List (Nat × Instr × Nat) := [(126, .goto 4, 3), (129, .iconst 0, 1), (130, .istore 6, 2), (132, .iinc 7 1, 3), (135, .goto (-61), 3), (138, .iload 6, 2), (140, .ifCond .eq 16, 3), (143, .iload 5, 2), (145, .aload_n 0, 1), (146, .getfield 297, 3), (149, .if_icmp .ge 7, 3), (152, .iconst 1, 1), (153, .goto 4, 3), (156, .iconst 0, 1), (157, .ireturn, 1)]
theorem dt_Ref_mayRead_c3 (i : Nat) : decode (jm_cod M_Ref_mayRead) (tab_Ref_mayRead_c3.getD i (126, .goto 4, 3)).1 = .ok ((tab_Ref_mayRead_c3.getD i (126, .goto 4, 3)).2.1, (tab_Ref_mayRead_c3.getD i (126, .goto 4, 3)).2.2) := j_tab (by decide +kernel) i
theorem d_Ref_mayRead_126 : decode (jm_cod M_Ref_mayRead) 126 = .ok (.goto 4, 3) := dt_Ref_mayRead_c3 0
theorem d_Ref_mayRead_129 : decode (jm_cod M_Ref_mayRead) 129 = .ok (.iconst 0, 1) := dt_Ref_mayRead_c3 1
theorem d_Ref_mayRead_130 : decode (jm_cod M_Ref_mayRead) 130 = .ok (.istore 6, 2) := dt_Ref_mayRead_c3 2
theorem d_Ref_mayRead_132 : decode (jm_cod M_Ref_mayRead) 132 = .ok (.iinc 7 1, 3) := dt_Ref_mayRead_c3 3
theorem d_Ref_mayRead_135 : decode (jm_cod M_Ref_mayRead) 135 = .ok (.goto (-61), 3) := dt_Ref_mayRead_c3 4
theorem d_Ref_mayRead_138 : decode (jm_cod M_Ref_mayRead) 138 = .ok (.iload 6, 2) := dt_Ref_mayRead_c3 5
theorem d_Ref_mayRead_140 : decode (jm_cod M_Ref_mayRead) 140 = .ok (.ifCond .eq 16, 3) := dt_Ref_mayRead_c3 6
theorem d_Ref_mayRead_143 : decode (jm_cod M_Ref_mayRead) 143 = .ok (.iload 5, 2) := dt_Ref_mayRead_c3 7
theorem d_Ref_mayRead_145 : decode (jm_cod M_Ref_mayRead) 145 = .ok (.aload_n 0, 1) := dt_Ref_mayRead_c3 8
theorem d_Ref_mayRead_146 : decode (jm_cod M_Ref_mayRead) 146 = .ok (.getfield 297, 3) := dt_Ref_mayRead_c3 9
theorem d_Ref_mayRead_149 : decode (jm_cod M_Ref_mayRead) 149 = .ok (.if_icmp .ge 7, 3) := dt_Ref_mayRead_c3 10
theorem d_Ref_mayRead_152 : decode (jm_cod M_Ref_mayRead) 152 = .ok (.iconst 1, 1) := dt_Ref_mayRead_c3 11
theorem d_Ref_mayRead_153 : decode (jm_cod M_Ref_mayRead) 153 = .ok (.goto 4, 3) := dt_Ref_mayRead_c3 12
theorem d_Ref_mayRead_156 : decode (jm_cod M_Ref_mayRead) 156 = .ok (.iconst 0, 1) := dt_Ref_mayRead_c3 13
theorem d_Ref_mayRead_157 : decode (jm_cod M_Ref_mayRead) 157 = .ok (.ireturn, 1) := dt_Ref_mayRead_c3 14
def tab_Ref_isBetter_c0 : List (Nat × Instr × Nat) := [(0, .iconst 4, 1), (1, .aload_n 0, 1), (2, .iconst 0, 1), (3, .iload_n 1, 1), (4, .iload_n 3, 1), (5, .invokevirtual 388, 3), (8, .imul, 1), (9, .istore 4, 2), (11, .iconst 4, 1), (12, .aload_n 0, 1), (13, .iconst 0, 1), (14, .iload_n 2, 1), (15, .iload_n 3, 1), (16, .invokevirtual 388, 3), (19, .imul, 1), (20, .istore 5, 2), (22, .aload_n 0, 1), (23, .getfield 532, 3), (26, .ifCond .ne 14, 3), (29, .iload_n 1, 1), (30, .iload_n 2, 1), (31, .if_icmp .ge 7, 3), (34, .iconst 1, 1), (35, .goto 4, 3)]
theorem dt_Ref_isBetter_c0 (i : Nat) : decode (jm_cod M_Ref_isBetter) (tab_Ref_isBetter_c0.getD i (0, .iconst 4, 1)).1 = .ok ((tab_Ref_isBetter_c0.getD i (0, .iconst 4, 1)).2.1, (tab_Ref_isBetter_c0.getD i (0, .iconst 4, 1)).2.2) := j_tab (by decide +kernel) i
theorem d_Ref_isBetter_0 : decode (jm_cod M_Ref_isBetter) 0 = .ok (.iconst 4, 1) := dt_Ref_isBetter_c0 0
theorem d_Ref_isBetter_1 : decode (jm_cod M_Ref_isBetter) 1 = .ok (.aload_n 0, 1) := dt_Ref_isBetter_c0 1
theorem d_Ref_isBetter_2 : decode (jm_cod M_Ref_isBetter) 2 = .ok (.iconst 0, 1) := dt_Ref_isBetter_c0 2
theorem d_Ref_isBetter_3 : decode (jm_cod M_Ref_isBetter) 3 = .ok (.iload_n 1, 1) := dt_Ref_isBetter_c0 3
theorem d_Ref_isBetter_4 : decode (jm_cod M_Ref_isBetter) 4 = .ok (.iload_n 3, 1) := dt_Ref_isBetter_c0 4
theorem d_Ref_isBetter_5 : decode (jm_cod M_Ref_isBetter) 5 = .ok (.invokevirtual 388, 3) := dt_Ref_isBetter_c0 5
theorem d_Ref_isBetter_8 : decode (jm_cod M_Ref_isBetter) 8 = .ok (.imul, 1) := dt_Ref_isBetter_c0 6
theorem d_Ref_isBetter_9 : decode (jm_cod M_Ref_isBetter) 9 = .ok (.istore 4, 2) := dt_Ref_isBetter_c0 7
theorem d_Ref_isBetter_11 : decode (jm_cod M_Ref_isBetter) 11 = .ok (.iconst 4, 1) := dt_Ref_isBetter_c0 8
theorem d_Ref_isBetter_12 : decode (jm_cod M_Ref_isBetter) 12 = .ok (.aload_n 0, 1) := dt_Ref_isBetter_c0 9
theorem d_Ref_isBetter_13 : decode (jm_cod M_Ref_isBetter) 13 = .ok (.iconst 0, 1) := dt_Ref_isBetter_c0 10
theorem d_Ref_isBetter_14 : decode (jm_cod M_Ref_isBetter) 14 = .ok (.iload_n 2, 1) := dt_Ref_isBetter_c0 11
theorem d_Ref_isBetter_15 : decode (jm_cod M_Ref_isBetter) 15 = .ok (.iload_n 3, 1) := dt_Ref_isBetter_c0 12
theorem d_Ref_isBetter_16 : decode (jm_cod M_Ref_isBetter) 16 = .ok (.invokevirtual 388, 3) := dt_Ref_isBetter_c0 13
theorem d_Ref_isBetter_19 : decode (jm_cod M_Ref_isBetter) 19 = .ok (.imul, 1) := dt_Ref_isBetter_c0 14
theorem d_Ref_isBetter_20 : decode (jm_cod M_Ref_isBetter) 20 = .ok (.istore 5, 2) := dt_Ref_isBetter_c0 15
theorem d_Ref_isBetter_22 : decode (jm_cod M_Ref_isBetter) 22 = .ok (.aload_n 0, 1) := dt_Ref_isBetter_c0 16
theorem d_Ref_isBetter_23 : decode (jm_cod M_Ref_isBetter) 23 = .ok (.getfield 532, 3) := dt_Ref_isBetter_c0 17
theorem d_Ref_isBetter_26 : decode (jm_cod M_Ref_isBetter) 26 = .ok (.ifCond .ne 14, 3) := dt_Ref_isBetter_c0 18
theorem d_Ref_isBetter_29 : decode (jm_cod M_Ref_isBetter) 29 = .ok (.iload_n 1, 1) := dt_Ref_isBetter_c0 19
theorem d_Ref_isBetter_30 : decode (jm_cod M_Ref_isBetter) 30 = .ok (.iload_n 2, 1) := dt_Ref_isBetter_c0 20
theorem d_Ref_isBetter_31 : decode (jm_cod M_Ref_isBetter) 31 = .ok (.if_icmp .ge 7, 3) := dt_Ref_isBetter_c0 21
theorem d_Ref_isBetter_34 : decode (jm_cod M_Ref_isBetter) 34 = .ok (.iconst 1, 1) := dt_Ref_isBetter_c0 22
theorem d_Ref_isBetter_35 : decode (jm_cod M_Ref_isBetter) 35 = .ok (.goto 4, 3) := dt_Ref_isBetter_c0 23
def tab_Ref_isBetter_c1 : List (Nat × Instr × Nat) := [(38, .iconst 0, 1), (39, .ireturn, 1), (40, .aload_n 0, 1), (41, .getfield 532, 3), (44, .iconst 2, 1), (45, .if_icmp .ne 48, 3), (48, .aload_n 0, 1), (49, .getfield 112, 3), (52, .iload 4, 2), (54, .iaload, 1), (55, .aload_n 0, 1), (56, .getfield 112, 3), (59, .iload 5, 2), (61, .iaload, 1), (62, .if_icmp .lt 25, 3), (65, .aload_n 0, 1), (66, .getfield 112, 3), (69, .iload 4, 2), (71, .iaload, 1), (72, .aload_n 0, 1), (73, .getfield 112, 3), (76, .iload 5, 2), (78, .iaload, 1), (79, .if_icmp .ne 12, 3)]
theorem dt_Ref_isBetter_c1 (i : Nat) : decode (jm_cod M_Ref_isBetter) (tab_Ref_isBetter_c1.getD i (38, .iconst 0, 1)).1 = .ok ((tab_Ref_isBetter_c1.getD i (38, .iconst 0, 1)).2.1, (tab_Ref_isBetter_c1.getD i (38, .iconst 0, 1)).2.2) := j_tab (by decide +kernel) i
theorem d_Ref_isBetter_38 : decode (jm_cod M_Ref_isBetter) 38 = .ok (.iconst 0, 1) := dt_Ref_isBetter_c1 0
theorem d_Ref_isBetter_39 : decode (jm_cod M_Ref_isBetter) 39 = .ok (.ireturn, 1) := dt_Ref_isBetter_c1 1
theorem d_Ref_isBetter_40 : decode (jm_cod M_Ref_isBetter) 40 = .ok (.aload_n 0, 1) := dt_Ref_isBetter_c1 2
theorem d_Ref_isBetter_41 : decode (jm_cod M_Ref_isBetter) 41 = .ok (.getfield 532, 3) := dt_Ref_isBetter_c1 3
theorem d_Ref_isBetter_44 : decode (jm_cod M_Ref_isBetter) 44 = .ok (.iconst 2, 1) := dt_Ref_isBetter_c1 4
theorem d_Ref_isBetter_45 : decode (jm_cod M_Ref_isBetter) 45 = .ok (.if_icmp .ne 48, 3) := dt_Ref_isBetter_c1 5
theorem d_Ref_isBetter_48 : decode (jm_cod M_Ref_isBetter) 48 = .ok (.aload_n 0, 1) := dt_Ref_isBetter_c1 6
theorem d_Ref_isBetter_49 : decode (jm_cod M_Ref_isBetter) 49 = .ok (.getfield 112, 3) := dt_Ref_isBetter_c1 7
theorem d_Ref_isBetter_52 : decode (jm_cod M_Ref_isBetter) 52 = .ok (.iload 4, 2) := dt_Ref_isBetter_c1 8
theorem d_Ref_isBetter_54 : decode (jm_cod M_Ref_isBetter) 54 = .ok (.iaload, 1) := dt_Ref_isBetter_c1 9
theorem d_Ref_isBetter_55 : decode (jm_cod M_Ref_isBetter) 55 = .ok (.aload_n 0, 1) := dt_Ref_isBetter_c1 10
theorem d_Ref_isBetter_56 : decode (jm_cod M_Ref_isBetter) 56 = .ok (.getfield 112, 3) := dt_Ref_isBetter_c1 11
theorem d_Ref_isBetter_59 : decode (jm_cod M_Ref_isBetter) 59 = .ok (.iload 5, 2) := dt_Ref_isBetter_c1 12
theorem d_Ref_isBetter_61 : decode (jm_cod M_Ref_isBetter) 61 = .ok (.iaload, 1) := dt_Ref_isBetter_c1 13
theorem d_Ref_isBetter_62 : decode (jm_cod M_Ref_isBetter) 62 = .ok (.if_icmp .lt 25, 3) := dt_Ref_isBetter_c1 14
theorem d_Ref_isBetter_65 : decode (jm_cod M_Ref_isBetter) 65 = .ok (.aload_n 0, 1) := dt_Ref_isBetter_c1 15
theorem d_Ref_isBetter_66 : decode (jm_cod M_Ref_isBetter) 66 = .ok (.getfield 112, 3) := dt_Ref_isBetter_c1 16
theorem d_Ref_isBetter_69 : decode (jm_cod M_Ref_isBetter) 69 = .ok (.iload 4, 2) := dt_Ref_isBetter_c1 17
theorem d_Ref_isBetter_71 : decode (jm_cod M_Ref_isBetter) 71 = .ok (.iaload, 1) := dt_Ref_isBetter_c1 18
theorem d_Ref_isBetter_72 : decode (jm_cod M_Ref_isBetter) 72 = .ok (.aload_n 0, 1) := dt_Ref_isBetter_c1 19
theorem d_Ref_isBetter_73 : decode (jm_cod M_Ref_isBetter) 73 = .ok (.getfield 112, 3) := dt_Ref_isBetter_c1 20
theorem d_Ref_isBetter_76 : decode (jm_cod M_Ref_isBetter) 76 = .ok (.iload 5, 2) := dt_Ref_isBetter_c1 21
theorem d_Ref_isBetter_78 : decode (jm_cod M_Ref_isBetter) 78 = .ok (.iaload, 1) := dt_Ref_isBetter_c1 22
theorem d_Ref_isBetter_79 : decode (jm_cod M_Ref_isBetter) 79 = .ok (.if_icmp .ne 12, 3) := dt_Ref_isBetter_c1 23
def tab_Ref_isBetter_c2 : List (Nat × Instr × Nat) := [(82, .iload_n 1, 1), (83, .iload_n 2, 1), (84, .if_icmp .ge 7, 3), (87, .iconst 1, 1), (88, .goto 4, 3), (91, .iconst 0, 1), (92, .ireturn, 1), (93, .aload_n 0, 1), (94, .getfield 532, 3), (97, .iconst 3, 1), (98, .if_icmp .ne 30, 3), (101, .aload_n 0, 1), (102, .getfield 106, 3), (105, .iload 4, 2), (107, .laload, 1), (108, .invokestatic 535, 3), (111, .aload_n 0, 1), (112, .getfield 106, 3), (115, .iload 5, 2), (117, .laload, 1), (118, .invokestatic 535, 3), (121, .if_icmp .le 7, 3), (124, .iconst 1, 1), (125, .goto 4, 3)]
theorem dt_Ref_isBetter_c2 (i : Nat) : decode (jm_cod M_Ref_isBetter) (tab_Ref_isBetter_c2.getD i (82, .iload_n 1, 1)).1 = .ok ((tab_Ref_isBetter_c2.getD i (82, .iload_n 1, 1)).2.1, (tab_Ref_isBetter_c2.getD i (82, .iload_n 1, 1)).2.2) := j_tab (by decide +kernel) i
theorem d_Ref_isBetter_82 : decode (jm_cod M_Ref_isBetter) 82 = .ok (.iload_n 1, 1) := dt_Ref_isBetter_c2 0
theorem d_Ref_isBetter_83 : decode (jm_cod M_Ref_isBetter) 83 = .ok (.iload_n 2, 1) := dt_Ref_isBetter_c2 1
theorem d_Ref_isBetter_84 : decode (jm_cod M_Ref_isBetter) 84 = .ok (.if_icmp .ge 7, 3) := dt_Ref_isBetter_c2 2
theorem d_Ref_isBetter_87 : decode (jm_cod M_Ref_isBetter) 87 = .ok (.iconst 1, 1) := dt_Ref_isBetter_c2 3
theorem d_Ref_isBetter_88 : decode (jm_cod M_Ref_isBetter) 88 = .ok (.goto 4, 3) := dt_Ref_isBetter_c2 4
theorem d_Ref_isBetter_91 : decode (jm_cod M_Ref_isBetter) 91 = .ok (.iconst 0, 1) := dt_Ref_isBetter_c2 5
theorem d_Ref_isBetter_92 : decode (jm_cod M_Ref_isBetter) 92 = .ok (.ireturn, 1) := dt_Ref_isBetter_c2 6
theorem d_Ref_isBetter_93 : decode (jm_cod M_Ref_isBetter) 93 = .ok (.aload_n 0, 1) := dt_Ref_isBetter_c2 7
theorem d_Ref_isBetter_94 : decode (jm_cod M_Ref_isBetter) 94 = .ok (.getfield 532, 3) := dt_Ref_isBetter_c2 8
theorem d_Ref_isBetter_97 : decode (jm_cod M_Ref_isBetter) 97 = .ok (.iconst 3, 1) := dt_Ref_isBetter_c2 9
theorem d_Ref_isBetter_98 : decode (jm_cod M_Ref_isBetter) 98 = .ok (.if_icmp .ne 30, 3) := dt_Ref_isBetter_c2 10
theorem d_Ref_isBetter_101 : decode (jm_cod M_Ref_isBetter) 101 = .ok (.aload_n 0, 1) := dt_Ref_isBetter_c2 11
theorem d_Ref_isBetter_102 : decode (jm_cod M_Ref_isBetter) 102 = .ok (.getfield 106, 3) := dt_Ref_isBetter_c2 12
theorem d_Ref_isBetter_105 : decode (jm_cod M_Ref_isBetter) 105 = .ok (.iload 4, 2) := dt_Ref_isBetter_c2 13
theorem d_Ref_isBetter_107 : decode (jm_cod M_Ref_isBetter) 107 = .ok (.laload, 1) := dt_Ref_isBetter_c2 14
theorem d_Ref_isBetter_108 : decode (jm_cod M_Ref_isBetter) 108 = .ok (.invokestatic 535, 3) := dt_Ref_isBetter_c2 15
theorem d_Ref_isBetter_111 : decode (jm_cod M_Ref_isBetter) 111 = .ok (.aload_n 0, 1) := dt_Ref_isBetter_c2 16
theorem d_Ref_isBetter_112 : decode (jm_cod M_Ref_isBetter) 112 = .ok (.getfield 106, 3) := dt_Ref_isBetter_c2 17
theorem d_Ref_isBetter_115 : decode (jm_cod M_Ref_isBetter) 115 = .ok (.iload 5, 2) := dt_Ref_isBetter_c2 18
theorem d_Ref_isBetter_117 : decode (jm_cod M_Ref_isBetter) 117 = .ok (.laload, 1) := dt_Ref_isBetter_c2 19
theorem d_Ref_isBetter_118 : decode (jm_cod M_Ref_isBetter) 118 = .ok (.invokestatic 535, 3) := dt_Ref_isBetter_c2 20
theorem d_Ref_isBetter_121 : decode (jm_cod M_Ref_isBetter) 121 = .ok (.if_icmp .le 7, 3) := dt_Ref_isBetter_c2 21
theorem d_Ref_isBetter_124 : decode (jm_cod M_Ref_isBetter) 124 = .ok (.iconst 1, 1) := dt_Ref_isBetter_c2 22
theorem d_Ref_isBetter_125 : decode (jm_cod M_Ref_isBetter) 125 = .ok (.goto 4, 3) := dt_Ref_isBetter_c2 23
def tab_Ref_isBetter_c3 : List (Nat × Instr × Nat) := [(128, .iconst 0, 1), (129, .ireturn, 1)]
theorem dt_Ref_isBetter_c3 (i : Nat) : decode (jm_cod M_Ref_isBetter) (tab_Ref_isBetter_c3.getD i (128, .iconst 0, 1)).1 = .ok ((tab_Ref_isBetter_c3.getD i (128, .iconst 0, 1)).2.1, (tab_Ref_isBetter_c3.getD i (128, .iconst 0, 1)).2.2) := j_tab (by decide +kernel) i
theorem d_Ref_isBetter_128 : decode (jm_cod M_Ref_isBetter) 128 = .ok (.iconst 0, 1) := dt_Ref_isBetter_c3 0
theorem d_Ref_isBetter_129 : decode (jm_cod M_Ref_isBetter) 129 = .ok (.ireturn, 1) := dt_Ref_isBetter_c3 1
def tab_Ref_urgencyOf_c0 : List (Nat × Instr × Nat) := [(0, .lload_n 0, 1), (1, .bipush 31, 2), (3, .lshr, 1), (4, .ldc2_w 310, 3), (7, .land, 1), (8, .l2i, 1), (9, .ireturn, 1)]
theorem dt_Ref_urgencyOf_c0 (i : Nat) : decode (jm_cod M_Ref_urgencyOf) (tab_Ref_urgencyOf_c0.getD i (0, .lload_n 0, 1)).1 = .ok ((tab_Ref_urgencyOf_c0.getD i (0, .lload_n 0, 1)).2.1, (tab_Ref_urgencyOf_c0.getD i (0, .lload_n 0, 1)).2.2) := j_tab (by decide +kernel) i
theorem d_Ref_urgencyOf_0 : decode (jm_cod M_Ref_urgencyOf) 0 = .ok (.lload_n 0, 1) := dt_Ref_urgencyOf_c0 0
theorem d_Ref_urgencyOf_1 : decode (jm_cod M_Ref_urgencyOf) 1 = .ok (.bipush 31, 2) := dt_Ref_urgencyOf_c0 1
theorem d_Ref_urgencyOf_3 : decode (jm_cod M_Ref_urgencyOf) 3 = .ok (.lshr, 1) := dt_Ref_urgencyOf_c0 2
theorem d_Ref_urgencyOf_4 : decode (jm_cod M_Ref_urgencyOf) 4 = .ok (.ldc2_w 310, 3) := dt_Ref_urgencyOf_c0 3
theorem d_Ref_urgencyOf_7 : decode (jm_cod M_Ref_urgencyOf) 7 = .ok (.land, 1) := dt_Ref_urgencyOf_c0 4
theorem d_Ref_urgencyOf_8 : decode (jm_cod M_Ref_urgencyOf) 8 = .ok (.l2i, 1) := dt_Ref_urgencyOf_c0 5
theorem d_Ref_urgencyOf_9 : decode (jm_cod M_Ref_urgencyOf) 9 = .ok (.ireturn, 1) := dt_Ref_urgencyOf_c0 6
def tab_Ref_moveData_c0 : List (Nat × Instr × Nat) := [(0, .aload_n 0, 1), (1, .iconst 0, 1), (2, .iload_n 1, 1), (3, .iconst 1, 1), (4, .invokevirtual 388, 3), (7, .istore_n 2, 1), (8, .iconst (-1), 1), (9, .istore_n 3, 1), (10, .aload_n 0, 1), (11, .getfield 526, 3), (14, .iconst 1, 1), (15, .isub, 1), (16, .istore 4, 2), (18, .iload 4, 2), (20, .ifCond .lt 37, 3), (23, .aload_n 0, 1), (24, .getfield 118, 3), (27, .iload 4, 2), (29, .iaload, 1), (30, .iload_n 1, 1), (31, .if_icmp .ne 18, 3), (34, .aload_n 0, 1), (35, .getfield 127, 3), (38, .iload 4, 2)]
theorem dt_Ref_moveData_c0 (i : Nat) : decode (jm_cod M_Ref_moveData) (tab_Ref_moveData_c0.getD i (0, .aload_n 0, 1)).1 = .ok ((tab_Ref_moveData_c0.getD i (0, .aload_n 0, 1)).2.1, (tab_Ref_moveData_c0.getD i (0, .aload_n 0, 1)).2.2) := j_tab (by decide +kernel) i
theorem d_Ref_moveData_0 : decode (jm_cod M_Ref_moveData) 0 = .ok (.aload_n 0, 1) := dt_Ref_moveData_c0 0
theorem d_Ref_moveData_1 : decode (jm_cod M_Ref_moveData) 1 = .ok (.iconst 0, 1) := dt_Ref_moveData_c0 1
theorem d_Ref_moveData_2 : decode (jm_cod M_Ref_moveData) 2 = .ok (.iload_n 1, 1) := dt_Ref_moveData_c0 2
theorem d_Ref_moveData_3 : decode (jm_cod M_Ref_moveData) 3 = .ok (.iconst 1, 1) := dt_Ref_moveData_c0 3
theorem d_Ref_moveData_4 : decode (jm_cod M_Ref_moveData) 4 = .ok (.invokevirtual 388, 3) := dt_Ref_moveData_c0 4
theorem d_Ref_moveData_7 : decode (jm_cod M_Ref_moveData) 7 = .ok (.istore_n 2, 1) := dt_Ref_moveData_c0 5
theorem d_Ref_moveData_8 : decode (jm_cod M_Ref_moveData) 8 = .ok (.iconst (-1), 1) := dt_Ref_moveData_c0 6
theorem d_Ref_moveData_9 : decode (jm_cod M_Ref_moveData) 9 = .ok (.istore_n 3, 1) := dt_Ref_moveData_c0 7
theorem d_Ref_moveData_10 : decode (jm_cod M_Ref_moveData) 10 = .ok (.aload_n 0, 1) := dt_Ref_moveData_c0 8
theorem d_Ref_moveData_11 : decode (jm_cod M_Ref_moveData) 11 = .ok (.getfield 526, 3) := dt_Ref_moveData_c0 9
theorem d_Ref_moveData_14 : decode (jm_cod M_Ref_moveData) 14 = .ok (.iconst 1, 1) := dt_Ref_moveData_c0 10
theorem d_Ref_moveData_15 : decode (jm_cod M_Ref_moveData) 15 = .ok (.isub, 1) := dt_Ref_moveData_c0 11
theorem d_Ref_moveData_16 : decode (jm_cod M_Ref_moveData) 16 = .ok (.istore 4, 2) := dt_Ref_moveData_c0 12
theorem d_Ref_moveData_18 : decode (jm_cod M_Ref_moveData) 18 = .ok (.iload 4, 2) := dt_Ref_moveData_c0 13
theorem d_Ref_moveData_20 : decode (jm_cod M_Ref_moveData) 20 = .ok (.ifCond .lt 37, 3) := dt_Ref_moveData_c0 14
theorem d_Ref_moveData_23 : decode (jm_cod M_Ref_moveData) 23 = .ok (.aload_n 0, 1) := dt_Ref_moveData_c0 15
theorem d_Ref_moveData_24 : decode (jm_cod M_Ref_moveData) 24 = .ok (.getfield 118, 3) := dt_Ref_moveData_c0 16
theorem d_Ref_moveData_27 : decode (jm_cod M_Ref_moveData) 27 = .ok (.iload 4, 2) := dt_Ref_moveData_c0 17
theorem d_Ref_moveData_29 : decode (jm_cod M_Ref_moveData) 29 = .ok (.iaload, 1) := dt_Ref_moveData_c0 18
theorem d_Ref_moveData_30 : decode (jm_cod M_Ref_moveData) 30 = .ok (.iload_n 1, 1) := dt_Ref_moveData_c0 19
theorem d_Ref_moveData_31 : decode (jm_cod M_Ref_moveData) 31 = .ok (.if_icmp .ne 18, 3) := dt_Ref_moveData_c0 20
theorem d_Ref_moveData_34 : decode (jm_cod M_Ref_moveData) 34 = .ok (.aload_n 0, 1) := dt_Ref_moveData_c0 21
theorem d_Ref_moveData_35 : decode (jm_cod M_Ref_moveData) 35 = .ok (.getfield 127, 3) := dt_Ref_moveData_c0 22
theorem d_Ref_moveData_38 : decode (jm_cod M_Ref_moveData) 38 = .ok (.iload 4, 2) := dt_Ref_moveData_c0 23
def tab_Ref_moveData_c1 : List (Nat × Instr × Nat) := [(40, .iaload, 1), (41, .ifCond .le 8, 3), (44, .iload 4, 2), (46, .goto 4, 3), (49, .iload_n 3, 1), (50, .istore_n 3, 1), (51, .iinc 4 (-1), 3), (54, .goto (-36), 3), (57, .aload_n 0, 1), (58, .getfield 115, 3), (61, .iload_n 2, 1), (62, .iaload, 1), (63, .ifCond .eq 8, 3), (66, .iload_n 3, 1), (67, .iconst (-1), 1), (68, .if_icmp .ne 4, 3), (71, .return_, 1), (72, .iconst (-1), 1), (73, .istore 4, 2), (75, .aload_n 0, 1), (76, .getfield 526, 3), (79, .iconst 1, 1), (80, .isub, 1), (81, .istore 5, 2)]
theorem dt_Ref_moveData_c1 (i : Nat) : decode (jm_cod M_Ref_moveData) (tab_Ref_moveData_c1.getD i (40, .iaload, 1)).1 = .ok ((tab_Ref_moveData_c1.getD i (40, .iaload, 1)).2.1, (tab_Ref_moveData_c1.getD i (40, .iaload, 1)).2.2) := j_tab (by decide +kernel) i
theorem d_Ref_moveData_40 : decode (jm_cod M_Ref_moveData) 40 = .ok (.iaload, 1) := dt_Ref_moveData_c1 0
theorem d_Ref_moveData_41 : decode (jm_cod M_Ref_moveData) 41 = .ok (.ifCond .le 8, 3) := dt_Ref_moveData_c1 1
theorem d_Ref_moveData_44 : decode (jm_cod M_Ref_moveData) 44 = .ok (.iload 4, 2) := dt_Ref_moveData_c1 2
theorem d_Ref_moveData_46 : decode (jm_cod M_Ref_moveData) 46 = .ok (.goto 4, 3) := dt_Ref_moveData_c1 3
theorem d_Ref_moveData_49 : decode (jm_cod M_Ref_moveData) 49 = .ok (.iload_n 3, 1) := dt_Ref_moveData_c1 4
theorem d_Ref_moveData_50 : decode (jm_cod M_Ref_moveData) 50 = .ok (.istore_n 3, 1) := dt_Ref_moveData_c1 5
theorem d_Ref_moveData_51 : decode (jm_cod M_Ref_moveData) 51 = .ok (.iinc 4 (-1), 3) := dt_Ref_moveData_c1 6
theorem d_Ref_moveData_54 : decode (jm_cod M_Ref_moveData) 54 = .ok (.goto (-36), 3) := dt_Ref_moveData_c1 7
theorem d_Ref_moveData_57 : decode (jm_cod M_Ref_moveData) 57 = .ok (.aload_n 0, 1) := dt_Ref_moveData_c1 8
theorem d_Ref_moveData_58 : decode (jm_cod M_Ref_moveData) 58 = .ok (.getfield 115, 3) := dt_Ref_moveData_c1 9
theorem d_Ref_moveData_61 : decode (jm_cod M_Ref_moveData) 61 = .ok (.iload_n 2, 1) := dt_Ref_moveData_c1 10
theorem d_Ref_moveData_62 : decode (jm_cod M_Ref_moveData) 62 = .ok (.iaload, 1) := dt_Ref_moveData_c1 11
theorem d_Ref_moveData_63 : decode (jm_cod M_Ref_moveData) 63 = .ok (.ifCond .eq 8, 3) := dt_Ref_moveData_c1 12
theorem d_Ref_moveData_66 : decode (jm_cod M_Ref_moveData) 66 = .ok (.iload_n 3, 1) := dt_Ref_moveData_c1 13
theorem d_Ref_moveData_67 : decode (jm_cod M_Ref_moveData) 67 = .ok (.iconst (-1), 1) := dt_Ref_moveData_c1 14
theorem d_Ref_moveData_68 : decode (jm_cod M_Ref_moveData) 68 = .ok (.if_icmp .ne 4, 3) := dt_Ref_moveData_c1 15
theorem d_Ref_moveData_71 : decode (jm_cod M_Ref_moveData) 71 = .ok (.return_, 1) := dt_Ref_moveData_c1 16
theorem d_Ref_moveData_72 : decode (jm_cod M_Ref_moveData) 72 = .ok (.iconst (-1), 1) := dt_Ref_moveData_c1 17
theorem d_Ref_moveData_73 : decode (jm_cod M_Ref_moveData) 73 = .ok (.istore 4, 2) := dt_Ref_moveData_c1 18
theorem d_Ref_moveData_75 : decode (jm_cod M_Ref_moveData) 75 = .ok (.aload_n 0, 1) := dt_Ref_moveData_c1 19
theorem d_Ref_moveData_76 : decode (jm_cod M_Ref_moveData) 76 = .ok (.getfield 526, 3) := dt_Ref_moveData_c1 20
theorem d_Ref_moveData_79 : decode (jm_cod M_Ref_moveData) 79 = .ok (.iconst 1, 1) := dt_Ref_moveData_c1 21
theorem d_Ref_moveData_80 : decode (jm_cod M_Ref_moveData) 80 = .ok (.isub, 1) := dt_Ref_moveData_c1 22
theorem d_Ref_moveData_81 : decode (jm_cod M_Ref_moveData) 81 = .ok (.istore 5, 2) := dt_Ref_moveData_c1 23
def tab_Ref_moveData_c2 : List (Nat × Instr × Nat) := [(83, .iload 5, 2), (85, .ifCond .lt 44, 3), (88, .aload_n 0, 1), (89, .getfield 124, 3), (92, .iload 5, 2), (94, .iaload, 1), (95, .aload_n 0, 1), (96, .getfield 124, 3), (99, .iload_n 3, 1), (100, .iaload, 1), (101, .if_icmp .ne 18, 3), (104, .aload_n 0, 1), (105, .getfield 127, 3), (108, .iload 5, 2), (110, .iaload, 1), (111, .ifCond .le 8, 3), (114, .iload 5, 2), (116, .goto 5, 3), (119, .iload 4, 2), (121, .istore 4, 2), (123, .iinc 5 (-1), 3), (126, .goto (-43), 3), (129, .aload_n 0, 1), (130, .iconst 1, 1)]
theorem dt_Ref_moveData_c2 (i : Nat) : decode (jm_cod M_Ref_moveData) (tab_Ref_moveData_c2.getD i (83, .iload 5, 2)).1 = .ok ((tab_Ref_moveData_c2.getD i (83, .iload 5, 2)).2.1, (tab_Ref_moveData_c2.getD i (83, .iload 5, 2)).2.2) := j_tab (by decide +kernel) i
theorem d_Ref_moveData_83 : decode (jm_cod M_Ref_moveData) 83 = .ok (.iload 5, 2) := dt_Ref_moveData_c2 0
theorem d_Ref_moveData_85 : decode (jm_cod M_Ref_moveData) 85 = .ok (.ifCond .lt 44, 3) := dt_Ref_moveData_c2 1
theorem d_Ref_moveData_88 : decode (jm_cod M_Ref_moveData) 88 = .ok (.aload_n 0, 1) := dt_Ref_moveData_c2 2
theorem d_Ref_moveData_89 : decode (jm_cod M_Ref_moveData) 89 = .ok (.getfield 124, 3) := dt_Ref_moveData_c2 3
theorem d_Ref_moveData_92 : decode (jm_cod M_Ref_moveData) 92 = .ok (.iload 5, 2) := dt_Ref_moveData_c2 4
theorem d_Ref_moveData_94 : decode (jm_cod M_Ref_moveData) 94 = .ok (.iaload, 1) := dt_Ref_moveData_c2 5
theorem d_Ref_moveData_95 : decode (jm_cod M_Ref_moveData) 95 = .ok (.aload_n 0, 1) := dt_Ref_moveData_c2 6
theorem d_Ref_moveData_96 : decode (jm_cod M_Ref_moveData) 96 = .ok (.getfield 124, 3) := dt_Ref_moveData_c2 7
theorem d_Ref_moveData_99 : decode (jm_cod M_Ref_moveData) 99 = .ok (.iload_n 3, 1) := dt_Ref_moveData_c2 8
theorem d_Ref_moveData_100 : decode (jm_cod M_Ref_moveData) 100 = .ok (.iaload, 1) := dt_Ref_moveData_c2 9
theorem d_Ref_moveData_101 : decode (jm_cod M_Ref_moveData) 101 = .ok (.if_icmp .ne 18, 3) := dt_Ref_moveData_c2 10
theorem d_Ref_moveData_104 : decode (jm_cod M_Ref_moveData) 104 = .ok (.aload_n 0, 1) := dt_Ref_moveData_c2 11
theorem d_Ref_moveData_105 : decode (jm_cod M_Ref_moveData) 105 = .ok (.getfield 127, 3) := dt_Ref_moveData_c2 12
theorem d_Ref_moveData_108 : decode (jm_cod M_Ref_moveData) 108 = .ok (.iload 5, 2) := dt_Ref_moveData_c2 13
theorem d_Ref_moveData_110 : decode (jm_cod M_Ref_moveData) 110 = .ok (.iaload, 1) := dt_Ref_moveData_c2 14
theorem d_Ref_moveData_111 : decode (jm_cod M_Ref_moveData) 111 = .ok (.ifCond .le 8, 3) := dt_Ref_moveData_c2 15
theorem d_Ref_moveData_114 : decode (jm_cod M_Ref_moveData) 114 = .ok (.iload 5, 2) := dt_Ref_moveData_c2 16
theorem d_Ref_moveData_116 : decode (jm_cod M_Ref_moveData) 116 = .ok (.goto 5, 3) := dt_Ref_moveData_c2 17
theorem d_Ref_moveData_119 : decode (jm_cod M_Ref_moveData) 119 = .ok (.iload 4, 2) := dt_Ref_moveData_c2 18
theorem d_Ref_moveData_121 : decode (jm_cod M_Ref_moveData) 121 = .ok (.istore 4, 2) := dt_Ref_moveData_c2 19
theorem d_Ref_moveData_123 : decode (jm_cod M_Ref_moveData) 123 = .ok (.iinc 5 (-1), 3) := dt_Ref_moveData_c2 20
theorem d_Ref_moveData_126 : decode (jm_cod M_Ref_moveData) 126 = .ok (.goto (-43), 3) := dt_Ref_moveData_c2 21
theorem d_Ref_moveData_129 : decode (jm_cod M_Ref_moveData) 129 = .ok (.aload_n 0, 1) := dt_Ref_moveData_c2 22
theorem d_Ref_moveData_130 : decode (jm_cod M_Ref_moveData) 130 = .ok (.iconst 1, 1) := dt_Ref_moveData_c2 23
def tab_Ref_moveData_c3 : List (Nat × Instr × Nat) := [(131, .aload_n 0, 1), (132, .getfield 124, 3), (135, .iload_n 3, 1), (136, .iaload, 1), (137, .iconst 1, 1), (138, .invokevirtual 388, 3), (141, .istore 5, 2), (143, .iload 4, 2), (145, .iload_n 3, 1), (146, .if_icmp .ne 53, 3), (149, .aload_n 0, 1), (150, .iload 5, 2), (152, .invokevirtual 392, 3), (155, .ifCond .eq 44, 3), (158, .aload_n 0, 1), (159, .iload 5, 2), (161, .aload_n 0, 1), (162, .getfield 106, 3), (165, .iconst 4, 1), (166, .iload_n 2, 1), (167, .imul, 1), (168, .laload, 1), (169, .aload_n 0, 1), (170, .getfield 109, 3)]
theorem dt_Ref_moveData_c3 (i : Nat) : decode (jm_cod M_Ref_moveData) (tab_Ref_moveData_c3.getD i (131, .aload_n 0, 1)).1 = .ok ((tab_Ref_moveData_c3.getD i (131, .aload_n 0, 1)).2.1, (tab_Ref_moveData_c3.getD i (131, .aload_n 0, 1)).2.2) := j_tab (by decide +kernel) i
theorem d_Ref_moveData_131 : decode (jm_cod M_Ref_moveData) 131 = .ok (.aload_n 0, 1) := dt_Ref_moveData_c3 0
theorem d_Ref_moveData_132 : decode (jm_cod M_Ref_moveData) 132 = .ok (.getfield 124, 3) := dt_Ref_moveData_c3 1
theorem d_Ref_moveData_135 : decode (jm_cod M_Ref_moveData) 135 = .ok (.iload_n 3, 1) := dt_Ref_moveData_c3 2
theorem d_Ref_moveData_136 : decode (jm_cod M_Ref_moveData) 136 = .ok (.iaload, 1) := dt_Ref_moveData_c3 3
theorem d_Ref_moveData_137 : decode (jm_cod M_Ref_moveData) 137 = .ok (.iconst 1, 1) := dt_Ref_moveData_c3 4
theorem d_Ref_moveData_138 : decode (jm_cod M_Ref_moveData) 138 = .ok (.invokevirtual 388, 3) := dt_Ref_moveData_c3 5
theorem d_Ref_moveData_141 : decode (jm_cod M_Ref_moveData) 141 = .ok (.istore 5, 2) := dt_Ref_moveData_c3 6
theorem d_Ref_moveData_143 : decode (jm_cod M_Ref_moveData) 143 = .ok (.iload 4, 2) := dt_Ref_moveData_c3 7
theorem d_Ref_moveData_145 : decode (jm_cod M_Ref_moveData) 145 = .ok (.iload_n 3, 1) := dt_Ref_moveData_c3 8
theorem d_Ref_moveData_146 : decode (jm_cod M_Ref_moveData) 146 = .ok (.if_icmp .ne 53, 3) := dt_Ref_moveData_c3 9
theorem d_Ref_moveData_149 : decode (jm_cod M_Ref_moveData) 149 = .ok (.aload_n 0, 1) := dt_Ref_moveData_c3 10
theorem d_Ref_moveData_150 : decode (jm_cod M_Ref_moveData) 150 = .ok (.iload 5, 2) := dt_Ref_moveData_c3 11
theorem d_Ref_moveData_152 : decode (jm_cod M_Ref_moveData) 152 = .ok (.invokevirtual 392, 3) := dt_Ref_moveData_c3 12
theorem d_Ref_moveData_155 : decode (jm_cod M_Ref_moveData) 155 = .ok (.ifCond .eq 44, 3) := dt_Ref_moveData_c3 13
theorem d_Ref_moveData_158 : decode (jm_cod M_Ref_moveData) 158 = .ok (.aload_n 0, 1) := dt_Ref_moveData_c3 14
theorem d_Ref_moveData_159 : decode (jm_cod M_Ref_moveData) 159 = .ok (.iload 5, 2) := dt_Ref_moveData_c3 15
theorem d_Ref_moveData_161 : decode (jm_cod M_Ref_moveData) 161 = .ok (.aload_n 0, 1) := dt_Ref_moveData_c3 16
theorem d_Ref_moveData_162 : decode (jm_cod M_Ref_moveData) 162 = .ok (.getfield 106, 3) := dt_Ref_moveData_c3 17
theorem d_Ref_moveData_165 : decode (jm_cod M_Ref_moveData) 165 = .ok (.iconst 4, 1) := dt_Ref_moveData_c3 18
theorem d_Ref_moveData_166 : decode (jm_cod M_Ref_moveData) 166 = .ok (.iload_n 2, 1) := dt_Ref_moveData_c3 19
theorem d_Ref_moveData_167 : decode (jm_cod M_Ref_moveData) 167 = .ok (.imul, 1) := dt_Ref_moveData_c3 20
theorem d_Ref_moveData_168 : decode (jm_cod M_Ref_moveData) 168 = .ok (.laload, 1) := dt_Ref_moveData_c3 21
theorem d_Ref_moveData_169 : decode (jm_cod M_Ref_moveData) 169 = .ok (.aload_n 0, 1) := dt_Ref_moveData_c3 22
theorem d_Ref_moveData_170 : decode (jm_cod M_Ref_moveData) 170 = .ok (.getfield 109, 3) := dt_Ref_moveData_c3 23
def tab_Ref_moveData_c4 : List (Nat × Instr × Nat) := [(173, .iconst 4, 1), (174, .iload_n 2, 1), (175, .imul, 1), (176, .iaload, 1), (177, .aload_n 0, 1), (178, .getfield 348, 3), (181, .invokevirtual 469, 3), (184, .aload_n 0, 1), (185, .iload_n 2, 1), (186, .invokevirtual 473, 3), (189, .aload_n 0, 1), (190, .getfield 127, 3), (193, .iload_n 3, 1), (194, .dup2, 1), (195, .iaload, 1), (196, .iconst 1, 1), (197, .isub, 1), (198, .iastore, 1), (199, .return_, 1)]
theorem dt_Ref_moveData_c4 (i : Nat) : decode (jm_cod M_Ref_moveData) (tab_Ref_moveData_c4.getD i (173, .iconst 4, 1)).1 = .ok ((tab_Ref_moveData_c4.getD i (173, .iconst 4, 1)).2.1, (tab_Ref_moveData_c4.getD i (173, .iconst 4, 1)).2.2) := j_tab (by decide +kernel) i
theorem d_Ref_moveData_173 : decode (jm_cod M_Ref_moveData) 173 = .ok (.iconst 4, 1) := dt_Ref_moveData_c4 0
theorem d_Ref_moveData_174 : decode (jm_cod M_Ref_moveData) 174 = .ok (.iload_n 2, 1) := dt_Ref_moveData_c4 1
theorem d_Ref_moveData_175 : decode (jm_cod M_Ref_moveData) 175 = .ok (.imul, 1) := dt_Ref_moveData_c4 2
theorem d_Ref_moveData_176 : decode (jm_cod M_Ref_moveData) 176 = .ok (.iaload, 1) := dt_Ref_moveData_c4 3
theorem d_Ref_moveData_177 : decode (jm_cod M_Ref_moveData) 177 = .ok (.aload_n 0, 1) := dt_Ref_moveData_c4 4
theorem d_Ref_moveData_178 : decode (jm_cod M_Ref_moveData) 178 = .ok (.getfield 348, 3) := dt_Ref_moveData_c4 5
theorem d_Ref_moveData_181 : decode (jm_cod M_Ref_moveData) 181 = .ok (.invokevirtual 469, 3) := dt_Ref_moveData_c4 6
theorem d_Ref_moveData_184 : decode (jm_cod M_Ref_moveData) 184 = .ok (.aload_n 0, 1) := dt_Ref_moveData_c4 7
theorem d_Ref_moveData_185 : decode (jm_cod M_Ref_moveData) 185 = .ok (.iload_n 2, 1) := dt_Ref_moveData_c4 8
theorem d_Ref_moveData_186 : decode (jm_cod M_Ref_moveData) 186 = .ok (.invokevirtual 473, 3) := dt_Ref_moveData_c4 9
theorem d_Ref_moveData_189 : decode (jm_cod M_Ref_moveData) 189 = .ok (.aload_n 0, 1) := dt_Ref_moveData_c4 10
theorem d_Ref_moveData_190 : decode (jm_cod M_Ref_moveData) 190 = .ok (.getfield 127, 3) := dt_Ref_moveData_c4 11
theorem d_Ref_moveData_193 : decode (jm_cod M_Ref_moveData) 193 = .ok (.iload_n 3, 1) := dt_Ref_moveData_c4 12
theorem d_Ref_moveData_194 : decode (jm_cod M_Ref_moveData) 194 = .ok (.dup2, 1) := dt_Ref_moveData_c4 13
theorem d_Ref_moveData_195 : decode (jm_cod M_Ref_moveData) 195 = .ok (.iaload, 1) := dt_Ref_moveData_c4 14
theorem d_Ref_moveData_196 : decode (jm_cod M_Ref_moveData) 196 = .ok (.iconst 1, 1) := dt_Ref_moveData_c4 15
theorem d_Ref_moveData_197 : decode (jm_cod M_Ref_moveData) 197 = .ok (.isub, 1) := dt_Ref_moveData_c4 16
theorem d_Ref_moveData_198 : decode (jm_cod M_Ref_moveData) 198 = .ok (.iastore, 1) := dt_Ref_moveData_c4 17
theorem d_Ref_moveData_199 : decode (jm_cod M_Ref_moveData) 199 = .ok (.return_, 1) := dt_Ref_moveData_c4 18
def tab_Ref_workDefault_c0 : List (Nat × Instr × Nat) := [(0, .aload_n 0, 1), (1, .iconst 1, 1), (2, .aload_n 0, 1), (3, .getfield 294, 3), (6, .iconst 1, 1), (7, .invokevirtual 388, 3), (10, .istore_n 1, 1), (11, .aload_n 0, 1), (12, .iconst 1, 1), (13, .aload_n 0, 1), (14, .getfield 294, 3), (17, .iconst 2, 1), (18, .invokevirtual 388, 3), (21, .istore_n 2, 1), (22, .aload_n 0, 1), (23, .getfield 109, 3), (26, .iconst 4, 1), (27, .iload_n 1, 1), (28, .imul, 1), (29, .iaload, 1), (30, .sipush 256, 3), (33, .iand, 1), (34, .ifCond .eq 7, 3), (37, .iconst 1, 1)]
theorem dt_Ref_workDefault_c0 (i : Nat) : decode (jm_cod M_Ref_workDefault) (tab_Ref_workDefault_c0.getD i (0, .aload_n 0, 1)).1 = .ok ((tab_Ref_workDefault_c0.getD i (0, .aload_n 0, 1)).2.1, (tab_Ref_workDefault_c0.getD i (0, .aload_n 0, 1)).2.2) := j_tab (by decide +kernel) i
theorem d_Ref_workDefault_0 : decode (jm_cod M_Ref_workDefault) 0 = .ok (.aload_n 0, 1) := dt_Ref_workDefault_c0 0
theorem d_Ref_workDefault_1 : decode (jm_cod M_Ref_workDefault) 1 = .ok (.iconst 1, 1) := dt_Ref_workDefault_c0 1
theorem d_Ref_workDefault_2 : decode (jm_cod M_Ref_workDefault) 2 = .ok (.aload_n 0, 1) := dt_Ref_workDefault_c0 2
theorem d_Ref_workDefault_3 : decode (jm_cod M_Ref_workDefault) 3 = .ok (.getfield 294, 3) := dt_Ref_workDefault_c0 3
theorem d_Ref_workDefault_6 : decode (jm_cod M_Ref_workDefault) 6 = .ok (.iconst 1, 1) := dt_Ref_workDefault_c0 4
theorem d_Ref_workDefault_7 : decode (jm_cod M_Ref_workDefault) 7 = .ok (.invokevirtual 388, 3) := dt_Ref_workDefault_c0 5
theorem d_Ref_workDefault_10 : decode (jm_cod M_Ref_workDefault) 10 = .ok (.istore_n 1, 1) := dt_Ref_workDefault_c0 6
theorem d_Ref_workDefault_11 : decode (jm_cod M_Ref_workDefault) 11 = .ok (.aload_n 0, 1) := dt_Ref_workDefault_c0 7
theorem d_Ref_workDefault_12 : decode (jm_cod M_Ref_workDefault) 12 = .ok (.iconst 1, 1) := dt_Ref_workDefault_c0 8
theorem d_Ref_workDefault_13 : decode (jm_cod M_Ref_workDefault) 13 = .ok (.aload_n 0, 1) := dt_Ref_workDefault_c0 9
theorem d_Ref_workDefault_14 : decode (jm_cod M_Ref_workDefault) 14 = .ok (.getfield 294, 3) := dt_Ref_workDefault_c0 10
theorem d_Ref_workDefault_17 : decode (jm_cod M_Ref_workDefault) 17 = .ok (.iconst 2, 1) := dt_Ref_workDefault_c0 11
theorem d_Ref_workDefault_18 : decode (jm_cod M_Ref_workDefault) 18 = .ok (.invokevirtual 388, 3) := dt_Ref_workDefault_c0 12
theorem d_Ref_workDefault_21 : decode (jm_cod M_Ref_workDefault) 21 = .ok (.istore_n 2, 1) := dt_Ref_workDefault_c0 13
theorem d_Ref_workDefault_22 : decode (jm_cod M_Ref_workDefault) 22 = .ok (.aload_n 0, 1) := dt_Ref_workDefault_c0 14
theorem d_Ref_workDefault_23 : decode (jm_cod M_Ref_workDefault) 23 = .ok (.getfield 109, 3) := dt_Ref_workDefault_c0 15
theorem d_Ref_workDefault_26 : decode (jm_cod M_Ref_workDefault) 26 = .ok (.iconst 4, 1) := dt_Ref_workDefault_c0 16
theorem d_Ref_workDefault_27 : decode (jm_cod M_Ref_workDefault) 27 = .ok (.iload_n 1, 1) := dt_Ref_workDefault_c0 17
theorem d_Ref_workDefault_28 : decode (jm_cod M_Ref_workDefault) 28 = .ok (.imul, 1) := dt_Ref_workDefault_c0 18
theorem d_Ref_workDefault_29 : decode (jm_cod M_Ref_workDefault) 29 = .ok (.iaload, 1) := dt_Ref_workDefault_c0 19
theorem d_Ref_workDefault_30 : decode (jm_cod M_Ref_workDefault) 30 = .ok (.sipush 256, 3) := dt_Ref_workDefault_c0 20
theorem d_Ref_workDefault_33 : decode (jm_cod M_Ref_workDefault) 33 = .ok (.iand, 1) := dt_Ref_workDefault_c0 21
theorem d_Ref_workDefault_34 : decode (jm_cod M_Ref_workDefault) 34 = .ok (.ifCond .eq 7, 3) := dt_Ref_workDefault_c0 22
theorem d_Ref_workDefault_37 : decode (jm_cod M_Ref_workDefault) 37 = .ok (.iconst 1, 1) := dt_Ref_workDefault_c0 23
def tab_Ref_workDefault_c1 : List (Nat × Instr × Nat) := [(38, .goto 4, 3), (41, .iconst 0, 1), (42, .istore_n 3, 1), (43, .aload_n 0, 1), (44, .getfield 115, 3), (47, .iload_n 1, 1), (48, .iaload, 1), (49, .ifCond .le 68, 3), (52, .iload_n 3, 1), (53, .ifCond .eq 11, 3), (56, .aload_n 0, 1), (57, .iload_n 2, 1), (58, .invokevirtual 392, 3), (61, .ifCond .eq 56, 3), (64, .aload_n 0, 1), (65, .iload_n 1, 1), (66, .invokevirtual 473, 3), (69, .iload_n 3, 1), (70, .ifCond .eq 47, 3), (73, .aload_n 0, 1), (74, .iconst 1, 1), (75, .aload_n 0, 1), (76, .getfield 294, 3), (79, .iconst 0, 1)]
theorem dt_Ref_workDefault_c1 (i : Nat) : decode (jm_cod M_Ref_workDefault) (tab_Ref_workDefault_c1.getD i (38, .goto 4, 3)).1 = .ok ((tab_Ref_workDefault_c1.getD i (38, .goto 4, 3)).2.1, (tab_Ref_workDefault_c1.getD i (38, .goto 4, 3)).2.2) := j_tab (by decide +kernel) i
theorem d_Ref_workDefault_38 : decode (jm_cod M_Ref_workDefault) 38 = .ok (.goto 4, 3) := dt_Ref_workDefault_c1 0
theorem d_Ref_workDefault_41 : decode (jm_cod M_Ref_workDefault) 41 = .ok (.iconst 0, 1) := dt_Ref_workDefault_c1 1
theorem d_Ref_workDefault_42 : decode (jm_cod M_Ref_workDefault) 42 = .ok (.istore_n 3, 1) := dt_Ref_workDefault_c1 2
theorem d_Ref_workDefault_43 : decode (jm_cod M_Ref_workDefault) 43 = .ok (.aload_n 0, 1) := dt_Ref_workDefault_c1 3
theorem d_Ref_workDefault_44 : decode (jm_cod M_Ref_workDefault) 44 = .ok (.getfield 115, 3) := dt_Ref_workDefault_c1 4
theorem d_Ref_workDefault_47 : decode (jm_cod M_Ref_workDefault) 47 = .ok (.iload_n 1, 1) := dt_Ref_workDefault_c1 5
theorem d_Ref_workDefault_48 : decode (jm_cod M_Ref_workDefault) 48 = .ok (.iaload, 1) := dt_Ref_workDefault_c1 6
theorem d_Ref_workDefault_49 : decode (jm_cod M_Ref_workDefault) 49 = .ok (.ifCond .le 68, 3) := dt_Ref_workDefault_c1 7
theorem d_Ref_workDefault_52 : decode (jm_cod M_Ref_workDefault) 52 = .ok (.iload_n 3, 1) := dt_Ref_workDefault_c1 8
theorem d_Ref_workDefault_53 : decode (jm_cod M_Ref_workDefault) 53 = .ok (.ifCond .eq 11, 3) := dt_Ref_workDefault_c1 9
theorem d_Ref_workDefault_56 : decode (jm_cod M_Ref_workDefault) 56 = .ok (.aload_n 0, 1) := dt_Ref_workDefault_c1 10
theorem d_Ref_workDefault_57 : decode (jm_cod M_Ref_workDefault) 57 = .ok (.iload_n 2, 1) := dt_Ref_workDefault_c1 11
theorem d_Ref_workDefault_58 : decode (jm_cod M_Ref_workDefault) 58 = .ok (.invokevirtual 392, 3) := dt_Ref_workDefault_c1 12
theorem d_Ref_workDefault_61 : decode (jm_cod M_Ref_workDefault) 61 = .ok (.ifCond .eq 56, 3) := dt_Ref_workDefault_c1 13
theorem d_Ref_workDefault_64 : decode (jm_cod M_Ref_workDefault) 64 = .ok (.aload_n 0, 1) := dt_Ref_workDefault_c1 14
theorem d_Ref_workDefault_65 : decode (jm_cod M_Ref_workDefault) 65 = .ok (.iload_n 1, 1) := dt_Ref_workDefault_c1 15
theorem d_Ref_workDefault_66 : decode (jm_cod M_Ref_workDefault) 66 = .ok (.invokevirtual 473, 3) := dt_Ref_workDefault_c1 16
theorem d_Ref_workDefault_69 : decode (jm_cod M_Ref_workDefault) 69 = .ok (.iload_n 3, 1) := dt_Ref_workDefault_c1 17
theorem d_Ref_workDefault_70 : decode (jm_cod M_Ref_workDefault) 70 = .ok (.ifCond .eq 47, 3) := dt_Ref_workDefault_c1 18
theorem d_Ref_workDefault_73 : decode (jm_cod M_Ref_workDefault) 73 = .ok (.aload_n 0, 1) := dt_Ref_workDefault_c1 19
theorem d_Ref_workDefault_74 : decode (jm_cod M_Ref_workDefault) 74 = .ok (.iconst 1, 1) := dt_Ref_workDefault_c1 20
theorem d_Ref_workDefault_75 : decode (jm_cod M_Ref_workDefault) 75 = .ok (.aload_n 0, 1) := dt_Ref_workDefault_c1 21
theorem d_Ref_workDefault_76 : decode (jm_cod M_Ref_workDefault) 76 = .ok (.getfield 294, 3) := dt_Ref_workDefault_c1 22
theorem d_Ref_workDefault_79 : decode (jm_cod M_Ref_workDefault) 79 = .ok (.iconst 0, 1) := dt_Ref_workDefault_c1 23
def tab_Ref_workDefault_c2 : List (Nat × Instr × Nat) := [(80, .invokevirtual 388, 3), (83, .istore 4, 2), (85, .aload_n 0, 1), (86, .iload_n 2, 1), (87, .lconst 0, 1), (88, .aload_n 0, 1), (89, .getfield 106, 3), (92, .iconst 4, 1), (93, .iload 4, 2), (95, .imul, 1), (96, .laload, 1), (97, .invokestatic 396, 3), (100, .sipush 192, 3), (103, .iadd, 1), (104, .aload_n 0, 1), (105, .getfield 348, 3), (108, .invokevirtual 469, 3), (111, .aload_n 0, 1), (112, .iload 4, 2), (114, .invokevirtual 473, 3), (117, .aload_n 0, 1), (118, .iconst 1, 1), (119, .aload_n 0, 1), (120, .getfield 294, 3)]
theorem dt_Ref_workDefault_c2 (i : Nat) : decode (jm_cod M_Ref_workDefault) (tab_Ref_workDefault_c2.getD i (80, .invokevirtual 388, 3)).1 = .ok ((tab_Ref_workDefault_c2.getD i (80, .invokevirtual 388, 3)).2.1, (tab_Ref_workDefault_c2.getD i (80, .invokevirtual 388, 3)).2.2) := j_tab (by decide +kernel) i
theorem d_Ref_workDefault_80 : decode (jm_cod M_Ref_workDefault) 80 = .ok (.invokevirtual 388, 3) := dt_Ref_workDefault_c2 0
theorem d_Ref_workDefault_83 : decode (jm_cod M_Ref_workDefault) 83 = .ok (.istore 4, 2) := dt_Ref_workDefault_c2 1
theorem d_Ref_workDefault_85 : decode (jm_cod M_Ref_workDefault) 85 = .ok (.aload_n 0, 1) := dt_Ref_workDefault_c2 2
theorem d_Ref_workDefault_86 : decode (jm_cod M_Ref_workDefault) 86 = .ok (.iload_n 2, 1) := dt_Ref_workDefault_c2 3
theorem d_Ref_workDefault_87 : decode (jm_cod M_Ref_workDefault) 87 = .ok (.lconst 0, 1) := dt_Ref_workDefault_c2 4
theorem d_Ref_workDefault_88 : decode (jm_cod M_Ref_workDefault) 88 = .ok (.aload_n 0, 1) := dt_Ref_workDefault_c2 5
theorem d_Ref_workDefault_89 : decode (jm_cod M_Ref_workDefault) 89 = .ok (.getfield 106, 3) := dt_Ref_workDefault_c2 6
theorem d_Ref_workDefault_92 : decode (jm_cod M_Ref_workDefault) 92 = .ok (.iconst 4, 1) := dt_Ref_workDefault_c2 7
theorem d_Ref_workDefault_93 : decode (jm_cod M_Ref_workDefault) 93 = .ok (.iload 4, 2) := dt_Ref_workDefault_c2 8
theorem d_Ref_workDefault_95 : decode (jm_cod M_Ref_workDefault) 95 = .ok (.imul, 1) := dt_Ref_workDefault_c2 9
theorem d_Ref_workDefault_96 : decode (jm_cod M_Ref_workDefault) 96 = .ok (.laload, 1) := dt_Ref_workDefault_c2 10
theorem d_Ref_workDefault_97 : decode (jm_cod M_Ref_workDefault) 97 = .ok (.invokestatic 396, 3) := dt_Ref_workDefault_c2 11
theorem d_Ref_workDefault_100 : decode (jm_cod M_Ref_workDefault) 100 = .ok (.sipush 192, 3) := dt_Ref_workDefault_c2 12
theorem d_Ref_workDefault_103 : decode (jm_cod M_Ref_workDefault) 103 = .ok (.iadd, 1) := dt_Ref_workDefault_c2 13
theorem d_Ref_workDefault_104 : decode (jm_cod M_Ref_workDefault) 104 = .ok (.aload_n 0, 1) := dt_Ref_workDefault_c2 14
theorem d_Ref_workDefault_105 : decode (jm_cod M_Ref_workDefault) 105 = .ok (.getfield 348, 3) := dt_Ref_workDefault_c2 15
theorem d_Ref_workDefault_108 : decode (jm_cod M_Ref_workDefault) 108 = .ok (.invokevirtual 469, 3) := dt_Ref_workDefault_c2 16
theorem d_Ref_workDefault_111 : decode (jm_cod M_Ref_workDefault) 111 = .ok (.aload_n 0, 1) := dt_Ref_workDefault_c2 17
theorem d_Ref_workDefault_112 : decode (jm_cod M_Ref_workDefault) 112 = .ok (.iload 4, 2) := dt_Ref_workDefault_c2 18
theorem d_Ref_workDefault_114 : decode (jm_cod M_Ref_workDefault) 114 = .ok (.invokevirtual 473, 3) := dt_Ref_workDefault_c2 19
theorem d_Ref_workDefault_117 : decode (jm_cod M_Ref_workDefault) 117 = .ok (.aload_n 0, 1) := dt_Ref_workDefault_c2 20
theorem d_Ref_workDefault_118 : decode (jm_cod M_Ref_workDefault) 118 = .ok (.iconst 1, 1) := dt_Ref_workDefault_c2 21
theorem d_Ref_workDefault_119 : decode (jm_cod M_Ref_workDefault) 119 = .ok (.aload_n 0, 1) := dt_Ref_workDefault_c2 22
theorem d_Ref_workDefault_120 : decode (jm_cod M_Ref_workDefault) 120 = .ok (.getfield 294, 3) := dt_Ref_workDefault_c2 23
def tab_Ref_workDefault_c3 : List (Nat × Instr × Nat) := [(123, .iconst 3, 1), (124, .invokevirtual 388, 3), (127, .istore 4, 2), (129, .aload_n 0, 1), (130, .iconst 1, 1), (131, .aload_n 0, 1), (132, .getfield 294, 3), (135, .iconst 4, 1), (136, .invokevirtual 388, 3), (139, .istore 5, 2), (141, .aload_n 0, 1), (142, .getfield 115, 3), (145, .iload 4, 2), (147, .iaload, 1), (148, .ifCond .le 101, 3), (151, .aload_n 0, 1), (152, .iload 5, 2), (154, .invokevirtual 392, 3), (157, .ifCond .eq 92, 3), (160, .aload_n 0, 1), (161, .getfield 106, 3), (164, .iconst 4, 1), (165, .iload 4, 2), (167, .imul, 1)]
theorem dt_Ref_workDefault_c3 (i : Nat) : decode (jm_cod M_Ref_workDefault) (tab_Ref_workDefault_c3.getD i (123, .iconst 3, 1)).1 = .ok ((tab_Ref_workDefault_c3.getD i (123, .iconst 3, 1)).2.1, (tab_Ref_workDefault_c3.getD i (123, .iconst 3, 1)).2.2) := j_tab (by decide +kernel) i
theorem d_Ref_workDefault_123 : decode (jm_cod M_Ref_workDefault) 123 = .ok (.iconst 3, 1) := dt_Ref_workDefault_c3 0
theorem d_Ref_workDefault_124 : decode (jm_cod M_Ref_workDefault) 124 = .ok (.invokevirtual 388, 3) := dt_Ref_workDefault_c3 1
theorem d_Ref_workDefault_127 : decode (jm_cod M_Ref_workDefault) 127 = .ok (.istore 4, 2) := dt_Ref_workDefault_c3 2
theorem d_Ref_workDefault_129 : decode (jm_cod M_Ref_workDefault) 129 = .ok (.aload_n 0, 1) := dt_Ref_workDefault_c3 3
theorem d_Ref_workDefault_130 : decode (jm_cod M_Ref_workDefault) 130 = .ok (.iconst 1, 1) := dt_Ref_workDefault_c3 4
theorem d_Ref_workDefault_131 : decode (jm_cod M_Ref_workDefault) 131 = .ok (.aload_n 0, 1) := dt_Ref_workDefault_c3 5
theorem d_Ref_workDefault_132 : decode (jm_cod M_Ref_workDefault) 132 = .ok (.getfield 294, 3) := dt_Ref_workDefault_c3 6
theorem d_Ref_workDefault_135 : decode (jm_cod M_Ref_workDefault) 135 = .ok (.iconst 4, 1) := dt_Ref_workDefault_c3 7
theorem d_Ref_workDefault_136 : decode (jm_cod M_Ref_workDefault) 136 = .ok (.invokevirtual 388, 3) := dt_Ref_workDefault_c3 8
theorem d_Ref_workDefault_139 : decode (jm_cod M_Ref_workDefault) 139 = .ok (.istore 5, 2) := dt_Ref_workDefault_c3 9
theorem d_Ref_workDefault_141 : decode (jm_cod M_Ref_workDefault) 141 = .ok (.aload_n 0, 1) := dt_Ref_workDefault_c3 10
theorem d_Ref_workDefault_142 : decode (jm_cod M_Ref_workDefault) 142 = .ok (.getfield 115, 3) := dt_Ref_workDefault_c3 11
theorem d_Ref_workDefault_145 : decode (jm_cod M_Ref_workDefault) 145 = .ok (.iload 4, 2) := dt_Ref_workDefault_c3 12
theorem d_Ref_workDefault_147 : decode (jm_cod M_Ref_workDefault) 147 = .ok (.iaload, 1) := dt_Ref_workDefault_c3 13
theorem d_Ref_workDefault_148 : decode (jm_cod M_Ref_workDefault) 148 = .ok (.ifCond .le 101, 3) := dt_Ref_workDefault_c3 14
theorem d_Ref_workDefault_151 : decode (jm_cod M_Ref_workDefault) 151 = .ok (.aload_n 0, 1) := dt_Ref_workDefault_c3 15
theorem d_Ref_workDefault_152 : decode (jm_cod M_Ref_workDefault) 152 = .ok (.iload 5, 2) := dt_Ref_workDefault_c3 16
theorem d_Ref_workDefault_154 : decode (jm_cod M_Ref_workDefault) 154 = .ok (.invokevirtual 392, 3) := dt_Ref_workDefault_c3 17
theorem d_Ref_workDefault_157 : decode (jm_cod M_Ref_workDefault) 157 = .ok (.ifCond .eq 92, 3) := dt_Ref_workDefault_c3 18
theorem d_Ref_workDefault_160 : decode (jm_cod M_Ref_workDefault) 160 = .ok (.aload_n 0, 1) := dt_Ref_workDefault_c3 19
theorem d_Ref_workDefault_161 : decode (jm_cod M_Ref_workDefault) 161 = .ok (.getfield 106, 3) := dt_Ref_workDefault_c3 20
theorem d_Ref_workDefault_164 : decode (jm_cod M_Ref_workDefault) 164 = .ok (.iconst 4, 1) := dt_Ref_workDefault_c3 21
theorem d_Ref_workDefault_165 : decode (jm_cod M_Ref_workDefault) 165 = .ok (.iload 4, 2) := dt_Ref_workDefault_c3 22
theorem d_Ref_workDefault_167 : decode (jm_cod M_Ref_workDefault) 167 = .ok (.imul, 1) := dt_Ref_workDefault_c3 23
def tab_Ref_workDefault_c4 : List (Nat × Instr × Nat) := [(168, .laload, 1), (169, .lstore 6, 2), (171, .aload_n 0, 1), (172, .dup, 1), (173, .getfield 553, 3), (176, .iconst 1, 1), (177, .iadd, 1), (178, .putfield 553, 3), (181, .aload_n 0, 1), (182, .getfield 553, 3), (185, .lload 6, 2), (187, .invokestatic 321, 3), (190, .if_icmp .ne 7, 3), (193, .iconst 1, 1), (194, .goto 4, 3), (197, .iconst 0, 1), (198, .istore 8, 2), (200, .aload_n 0, 1), (201, .iload 5, 2), (203, .lconst 0, 1), (204, .lload 6, 2), (206, .invokestatic 396, 3), (209, .sipush 192, 3), (212, .iadd, 1)]
theorem dt_Ref_workDefault_c4 (i : Nat) : decode (jm_cod M_Ref_workDefault) (tab_Ref_workDefault_c4.getD i (168, .laload, 1)).1 = .ok ((tab_Ref_workDefault_c4.getD i (168, .laload, 1)).2.1, (tab_Ref_workDefault_c4.getD i (168, .laload, 1)).2.2) := j_tab (by decide +kernel) i
theorem d_Ref_workDefault_168 : decode (jm_cod M_Ref_workDefault) 168 = .ok (.laload, 1) := dt_Ref_workDefault_c4 0
theorem d_Ref_workDefault_169 : decode (jm_cod M_Ref_workDefault) 169 = .ok (.lstore 6, 2) := dt_Ref_workDefault_c4 1
theorem d_Ref_workDefault_171 : decode (jm_cod M_Ref_workDefault) 171 = .ok (.aload_n 0, 1) := dt_Ref_workDefault_c4 2
theorem d_Ref_workDefault_172 : decode (jm_cod M_Ref_workDefault) 172 = .ok (.dup, 1) := dt_Ref_workDefault_c4 3
theorem d_Ref_workDefault_173 : decode (jm_cod M_Ref_workDefault) 173 = .ok (.getfield 553, 3) := dt_Ref_workDefault_c4 4
theorem d_Ref_workDefault_176 : decode (jm_cod M_Ref_workDefault) 176 = .ok (.iconst 1, 1) := dt_Ref_workDefault_c4 5
theorem d_Ref_workDefault_177 : decode (jm_cod M_Ref_workDefault) 177 = .ok (.iadd, 1) := dt_Ref_workDefault_c4 6
theorem d_Ref_workDefault_178 : decode (jm_cod M_Ref_workDefault) 178 = .ok (.putfield 553, 3) := dt_Ref_workDefault_c4 7
theorem d_Ref_workDefault_181 : decode (jm_cod M_Ref_workDefault) 181 = .ok (.aload_n 0, 1) := dt_Ref_workDefault_c4 8
theorem d_Ref_workDefault_182 : decode (jm_cod M_Ref_workDefault) 182 = .ok (.getfield 553, 3) := dt_Ref_workDefault_c4 9
theorem d_Ref_workDefault_185 : decode (jm_cod M_Ref_workDefault) 185 = .ok (.lload 6, 2) := dt_Ref_workDefault_c4 10
theorem d_Ref_workDefault_187 : decode (jm_cod M_Ref_workDefault) 187 = .ok (.invokestatic 321, 3) := dt_Ref_workDefault_c4 11
theorem d_Ref_workDefault_190 : decode (jm_cod M_Ref_workDefault) 190 = .ok (.if_icmp .ne 7, 3) := dt_Ref_workDefault_c4 12
theorem d_Ref_workDefault_193 : decode (jm_cod M_Ref_workDefault) 193 = .ok (.iconst 1, 1) := dt_Ref_workDefault_c4 13
theorem d_Ref_workDefault_194 : decode (jm_cod M_Ref_workDefault) 194 = .ok (.goto 4, 3) := dt_Ref_workDefault_c4 14
theorem d_Ref_workDefault_197 : decode (jm_cod M_Ref_workDefault) 197 = .ok (.iconst 0, 1) := dt_Ref_workDefault_c4 15
theorem d_Ref_workDefault_198 : decode (jm_cod M_Ref_workDefault) 198 = .ok (.istore 8, 2) := dt_Ref_workDefault_c4 16
theorem d_Ref_workDefault_200 : decode (jm_cod M_Ref_workDefault) 200 = .ok (.aload_n 0, 1) := dt_Ref_workDefault_c4 17
theorem d_Ref_workDefault_201 : decode (jm_cod M_Ref_workDefault) 201 = .ok (.iload 5, 2) := dt_Ref_workDefault_c4 18
theorem d_Ref_workDefault_203 : decode (jm_cod M_Ref_workDefault) 203 = .ok (.lconst 0, 1) := dt_Ref_workDefault_c4 19
theorem d_Ref_workDefault_204 : decode (jm_cod M_Ref_workDefault) 204 = .ok (.lload 6, 2) := dt_Ref_workDefault_c4 20
theorem d_Ref_workDefault_206 : decode (jm_cod M_Ref_workDefault) 206 = .ok (.invokestatic 396, 3) := dt_Ref_workDefault_c4 21
theorem d_Ref_workDefault_209 : decode (jm_cod M_Ref_workDefault) 209 = .ok (.sipush 192, 3) := dt_Ref_workDefault_c4 22
theorem d_Ref_workDefault_212 : decode (jm_cod M_Ref_workDefault) 212 = .ok (.iadd, 1) := dt_Ref_workDefault_c4 23
def tab_Ref_workDefault_c5 : List (Nat × Instr × Nat) := [(213, .iload 8, 2), (215, .ifCond .eq 9, 3), (218, .sipush 256, 3), (221, .goto 4, 3), (224, .iconst 0, 1), (225, .iadd, 1), (226, .aload_n 0, 1), (227, .getfield 348, 3), (230, .invokevirtual 469, 3), (233, .iload 8, 2), (235, .ifCond .eq 14, 3), (238, .aload_n 0, 1), (239, .iconst 0, 1), (240, .putfield 553, 3), (243, .aload_n 0, 1), (244, .iload 4, 2), (246, .invokevirtual 473, 3), (249, .return_, 1)]
theorem dt_Ref_workDefault_c5 (i : Nat) : decode (jm_cod M_Ref_workDefault) (tab_Ref_workDefault_c5.getD i (213, .iload 8, 2)).1 = .ok ((tab_Ref_workDefault_c5.getD i (213, .iload 8, 2)).2.1, (tab_Ref_workDefault_c5.getD i (213, .iload 8, 2)).2.2) := j_tab (by decide +kernel) i
theorem d_Ref_workDefault_213 : decode (jm_cod M_Ref_workDefault) 213 = .ok (.iload 8, 2) := dt_Ref_workDefault_c5 0
theorem d_Ref_workDefault_215 : decode (jm_cod M_Ref_workDefault) 215 = .ok (.ifCond .eq 9, 3) := dt_Ref_workDefault_c5 1
theorem d_Ref_workDefault_218 : decode (jm_cod M_Ref_workDefault) 218 = .ok (.sipush 256, 3) := dt_Ref_workDefault_c5 2
theorem d_Ref_workDefault_221 : decode (jm_cod M_Ref_workDefault) 221 = .ok (.goto 4, 3) := dt_Ref_workDefault_c5 3
theorem d_Ref_workDefault_224 : decode (jm_cod M_Ref_workDefault) 224 = .ok (.iconst 0, 1) := dt_Ref_workDefault_c5 4
theorem d_Ref_workDefault_225 : decode (jm_cod M_Ref_workDefault) 225 = .ok (.iadd, 1) := dt_Ref_workDefault_c5 5
theorem d_Ref_workDefault_226 : decode (jm_cod M_Ref_workDefault) 226 = .ok (.aload_n 0, 1) := dt_Ref_workDefault_c5 6
theorem d_Ref_workDefault_227 : decode (jm_cod M_Ref_workDefault) 227 = .ok (.getfield 348, 3) := dt_Ref_workDefault_c5 7
theorem d_Ref_workDefault_230 : decode (jm_cod M_Ref_workDefault) 230 = .ok (.invokevirtual 469, 3) := dt_Ref_workDefault_c5 8
theorem d_Ref_workDefault_233 : decode (jm_cod M_Ref_workDefault) 233 = .ok (.iload 8, 2) := dt_Ref_workDefault_c5 9
theorem d_Ref_workDefault_235 : decode (jm_cod M_Ref_workDefault) 235 = .ok (.ifCond .eq 14, 3) := dt_Ref_workDefault_c5 10
theorem d_Ref_workDefault_238 : decode (jm_cod M_Ref_workDefault) 238 = .ok (.aload_n 0, 1) := dt_Ref_workDefault_c5 11
theorem d_Ref_workDefault_239 : decode (jm_cod M_Ref_workDefault) 239 = .ok (.iconst 0, 1) := dt_Ref_workDefault_c5 12
theorem d_Ref_workDefault_240 : decode (jm_cod M_Ref_workDefault) 240 = .ok (.putfield 553, 3) := dt_Ref_workDefault_c5 13
theorem d_Ref_workDefault_243 : decode (jm_cod M_Ref_workDefault) 243 = .ok (.aload_n 0, 1) := dt_Ref_workDefault_c5 14
theorem d_Ref_workDefault_244 : decode (jm_cod M_Ref_workDefault) 244 = .ok (.iload 4, 2) := dt_Ref_workDefault_c5 15
theorem d_Ref_workDefault_246 : decode (jm_cod M_Ref_workDefault) 246 = .ok (.invokevirtual 473, 3) := dt_Ref_workDefault_c5 16
theorem d_Ref_workDefault_249 : decode (jm_cod M_Ref_workDefault) 249 = .ok (.return_, 1) := dt_Ref_workDefault_c5 17
def tab_Ref_moveAnswer_c0 : List (Nat × Instr × Nat) := [(0, .aload_n 0, 1), (1, .iconst 0, 1), (2, .iload_n 1, 1), (3, .iconst 2, 1), (4, .invokevirtual 388, 3), (7, .istore_n 2, 1), (8, .aload_n 0, 1), (9, .getfield 294, 3), (12, .iconst 1, 1), (13, .iadd, 1), (14, .istore_n 3, 1), (15, .iconst (-1), 1), (16, .istore 4, 2), (18, .iconst 1, 1), (19, .istore 5, 2), (21, .iload 5, 2), (23, .iload_n 3, 1), (24, .if_icmp .gt 47, 3), (27, .iload 4, 2), (29, .iconst (-1), 1), (30, .if_icmp .ne 41, 3), (33, .aload_n 0, 1), (34, .getfield 145, 3), (37, .iload_n 1, 1)]
theorem dt_Ref_moveAnswer_c0 (i : Nat) : decode (jm_cod M_Ref_moveAnswer) (tab_Ref_moveAnswer_c0.getD i (0, .aload_n 0, 1)).1 = .ok ((tab_Ref_moveAnswer_c0.getD i (0, .aload_n 0, 1)).2.1, (tab_Ref_moveAnswer_c0.getD i (0, .aload_n 0, 1)).2.2) := j_tab (by decide +kernel) i
theorem d_Ref_moveAnswer_0 : decode (jm_cod M_Ref_moveAnswer) 0 = .ok (.aload_n 0, 1) := dt_Ref_moveAnswer_c0 0
theorem d_Ref_moveAnswer_1 : decode (jm_cod M_Ref_moveAnswer) 1 = .ok (.iconst 0, 1) := dt_Ref_moveAnswer_c0 1
theorem d_Ref_moveAnswer_2 : decode (jm_cod M_Ref_moveAnswer) 2 = .ok (.iload_n 1, 1) := dt_Ref_moveAnswer_c0 2
theorem d_Ref_moveAnswer_3 : decode (jm_cod M_Ref_moveAnswer) 3 = .ok (.iconst 2, 1) := dt_Ref_moveAnswer_c0 3
theorem d_Ref_moveAnswer_4 : decode (jm_cod M_Ref_moveAnswer) 4 = .ok (.invokevirtual 388, 3) := dt_Ref_moveAnswer_c0 4
theorem d_Ref_moveAnswer_7 : decode (jm_cod M_Ref_moveAnswer) 7 = .ok (.istore_n 2, 1) := dt_Ref_moveAnswer_c0 5
theorem d_Ref_moveAnswer_8 : decode (jm_cod M_Ref_moveAnswer) 8 = .ok (.aload_n 0, 1) := dt_Ref_moveAnswer_c0 6
theorem d_Ref_moveAnswer_9 : decode (jm_cod M_Ref_moveAnswer) 9 = .ok (.getfield 294, 3) := dt_Ref_moveAnswer_c0 7
theorem d_Ref_moveAnswer_12 : decode (jm_cod M_Ref_moveAnswer) 12 = .ok (.iconst 1, 1) := dt_Ref_moveAnswer_c0 8
theorem d_Ref_moveAnswer_13 : decode (jm_cod M_Ref_moveAnswer) 13 = .ok (.iadd, 1) := dt_Ref_moveAnswer_c0 9
theorem d_Ref_moveAnswer_14 : decode (jm_cod M_Ref_moveAnswer) 14 = .ok (.istore_n 3, 1) := dt_Ref_moveAnswer_c0 10
theorem d_Ref_moveAnswer_15 : decode (jm_cod M_Ref_moveAnswer) 15 = .ok (.iconst (-1), 1) := dt_Ref_moveAnswer_c0 11
theorem d_Ref_moveAnswer_16 : decode (jm_cod M_Ref_moveAnswer) 16 = .ok (.istore 4, 2) := dt_Ref_moveAnswer_c0 12
theorem d_Ref_moveAnswer_18 : decode (jm_cod M_Ref_moveAnswer) 18 = .ok (.iconst 1, 1) := dt_Ref_moveAnswer_c0 13
theorem d_Ref_moveAnswer_19 : decode (jm_cod M_Ref_moveAnswer) 19 = .ok (.istore 5, 2) := dt_Ref_moveAnswer_c0 14
theorem d_Ref_moveAnswer_21 : decode (jm_cod M_Ref_moveAnswer) 21 = .ok (.iload 5, 2) := dt_Ref_moveAnswer_c0 15
theorem d_Ref_moveAnswer_23 : decode (jm_cod M_Ref_moveAnswer) 23 = .ok (.iload_n 3, 1) := dt_Ref_moveAnswer_c0 16
theorem d_Ref_moveAnswer_24 : decode (jm_cod M_Ref_moveAnswer) 24 = .ok (.if_icmp .gt 47, 3) := dt_Ref_moveAnswer_c0 17
theorem d_Ref_moveAnswer_27 : decode (jm_cod M_Ref_moveAnswer) 27 = .ok (.iload 4, 2) := dt_Ref_moveAnswer_c0 18
theorem d_Ref_moveAnswer_29 : decode (jm_cod M_Ref_moveAnswer) 29 = .ok (.iconst (-1), 1) := dt_Ref_moveAnswer_c0 19
theorem d_Ref_moveAnswer_30 : decode (jm_cod M_Ref_moveAnswer) 30 = .ok (.if_icmp .ne 41, 3) := dt_Ref_moveAnswer_c0 20
theorem d_Ref_moveAnswer_33 : decode (jm_cod M_Ref_moveAnswer) 33 = .ok (.aload_n 0, 1) := dt_Ref_moveAnswer_c0 21
theorem d_Ref_moveAnswer_34 : decode (jm_cod M_Ref_moveAnswer) 34 = .ok (.getfield 145, 3) := dt_Ref_moveAnswer_c0 22
theorem d_Ref_moveAnswer_37 : decode (jm_cod M_Ref_moveAnswer) 37 = .ok (.iload_n 1, 1) := dt_Ref_moveAnswer_c0 23
def tab_Ref_moveAnswer_c1 : List (Nat × Instr × Nat) := [(38, .iaload, 1), (39, .iload 5, 2), (41, .iadd, 1), (42, .iload_n 3, 1), (43, .irem, 1), (44, .istore 6, 2), (46, .aload_n 0, 1), (47, .iload 6, 2), (49, .iconst 2, 1), (50, .iload_n 1, 1), (51, .invokevirtual 556, 3), (54, .ifCond .eq 8, 3), (57, .iload 6, 2), (59, .goto 4, 3), (62, .iconst (-1), 1), (63, .istore 4, 2), (65, .iinc 5 1, 3), (68, .goto (-47), 3), (71, .iload 4, 2), (73, .iconst (-1), 1), (74, .if_icmp .eq 11, 3), (77, .aload_n 0, 1), (78, .iload_n 2, 1), (79, .invokevirtual 392, 3)]
theorem dt_Ref_moveAnswer_c1 (i : Nat) : decode (jm_cod M_Ref_moveAnswer) (tab_Ref_moveAnswer_c1.getD i (38, .iaload, 1)).1 = .ok ((tab_Ref_moveAnswer_c1.getD i (38, .iaload, 1)).2.1, (tab_Ref_moveAnswer_c1.getD i (38, .iaload, 1)).2.2) := j_tab (by decide +kernel) i
theorem d_Ref_moveAnswer_38 : decode (jm_cod M_Ref_moveAnswer) 38 = .ok (.iaload, 1) := dt_Ref_moveAnswer_c1 0
theorem d_Ref_moveAnswer_39 : decode (jm_cod M_Ref_moveAnswer) 39 = .ok (.iload 5, 2) := dt_Ref_moveAnswer_c1 1
theorem d_Ref_moveAnswer_41 : decode (jm_cod M_Ref_moveAnswer) 41 = .ok (.iadd, 1) := dt_Ref_moveAnswer_c1 2
theorem d_Ref_moveAnswer_42 : decode (jm_cod M_Ref_moveAnswer) 42 = .ok (.iload_n 3, 1) := dt_Ref_moveAnswer_c1 3
theorem d_Ref_moveAnswer_43 : decode (jm_cod M_Ref_moveAnswer) 43 = .ok (.irem, 1) := dt_Ref_moveAnswer_c1 4
theorem d_Ref_moveAnswer_44 : decode (jm_cod M_Ref_moveAnswer) 44 = .ok (.istore 6, 2) := dt_Ref_moveAnswer_c1 5
theorem d_Ref_moveAnswer_46 : decode (jm_cod M_Ref_moveAnswer) 46 = .ok (.aload_n 0, 1) := dt_Ref_moveAnswer_c1 6
theorem d_Ref_moveAnswer_47 : decode (jm_cod M_Ref_moveAnswer) 47 = .ok (.iload 6, 2) := dt_Ref_moveAnswer_c1 7
theorem d_Ref_moveAnswer_49 : decode (jm_cod M_Ref_moveAnswer) 49 = .ok (.iconst 2, 1) := dt_Ref_moveAnswer_c1 8
theorem d_Ref_moveAnswer_50 : decode (jm_cod M_Ref_moveAnswer) 50 = .ok (.iload_n 1, 1) := dt_Ref_moveAnswer_c1 9
theorem d_Ref_moveAnswer_51 : decode (jm_cod M_Ref_moveAnswer) 51 = .ok (.invokevirtual 556, 3) := dt_Ref_moveAnswer_c1 10
theorem d_Ref_moveAnswer_54 : decode (jm_cod M_Ref_moveAnswer) 54 = .ok (.ifCond .eq 8, 3) := dt_Ref_moveAnswer_c1 11
theorem d_Ref_moveAnswer_57 : decode (jm_cod M_Ref_moveAnswer) 57 = .ok (.iload 6, 2) := dt_Ref_moveAnswer_c1 12
theorem d_Ref_moveAnswer_59 : decode (jm_cod M_Ref_moveAnswer) 59 = .ok (.goto 4, 3) := dt_Ref_moveAnswer_c1 13
theorem d_Ref_moveAnswer_62 : decode (jm_cod M_Ref_moveAnswer) 62 = .ok (.iconst (-1), 1) := dt_Ref_moveAnswer_c1 14
theorem d_Ref_moveAnswer_63 : decode (jm_cod M_Ref_moveAnswer) 63 = .ok (.istore 4, 2) := dt_Ref_moveAnswer_c1 15
theorem d_Ref_moveAnswer_65 : decode (jm_cod M_Ref_moveAnswer) 65 = .ok (.iinc 5 1, 3) := dt_Ref_moveAnswer_c1 16
theorem d_Ref_moveAnswer_68 : decode (jm_cod M_Ref_moveAnswer) 68 = .ok (.goto (-47), 3) := dt_Ref_moveAnswer_c1 17
theorem d_Ref_moveAnswer_71 : decode (jm_cod M_Ref_moveAnswer) 71 = .ok (.iload 4, 2) := dt_Ref_moveAnswer_c1 18
theorem d_Ref_moveAnswer_73 : decode (jm_cod M_Ref_moveAnswer) 73 = .ok (.iconst (-1), 1) := dt_Ref_moveAnswer_c1 19
theorem d_Ref_moveAnswer_74 : decode (jm_cod M_Ref_moveAnswer) 74 = .ok (.if_icmp .eq 11, 3) := dt_Ref_moveAnswer_c1 20
theorem d_Ref_moveAnswer_77 : decode (jm_cod M_Ref_moveAnswer) 77 = .ok (.aload_n 0, 1) := dt_Ref_moveAnswer_c1 21
theorem d_Ref_moveAnswer_78 : decode (jm_cod M_Ref_moveAnswer) 78 = .ok (.iload_n 2, 1) := dt_Ref_moveAnswer_c1 22
theorem d_Ref_moveAnswer_79 : decode (jm_cod M_Ref_moveAnswer) 79 = .ok (.invokevirtual 392, 3) := dt_Ref_moveAnswer_c1 23
def tab_Ref_moveAnswer_c2 : List (Nat × Instr × Nat) := [(82, .ifCond .ne 4, 3), (85, .return_, 1), (86, .aload_n 0, 1), (87, .iconst 1, 1), (88, .iload 4, 2), (90, .iconst 2, 1), (91, .invokevirtual 388, 3), (94, .istore 5, 2), (96, .aload_n 0, 1), (97, .getfield 109, 3), (100, .iconst 4, 1), (101, .iload 5, 2), (103, .imul, 1), (104, .iaload, 1), (105, .bipush 16, 2), (107, .iload_n 1, 1), (108, .imul, 1), (109, .isub, 1), (110, .istore 6, 2), (112, .aload_n 0, 1), (113, .iload 5, 2), (115, .invokevirtual 473, 3), (118, .aload_n 0, 1), (119, .iload_n 2, 1)]
theorem dt_Ref_moveAnswer_c2 (i : Nat) : decode (jm_cod M_Ref_moveAnswer) (tab_Ref_moveAnswer_c2.getD i (82, .ifCond .ne 4, 3)).1 = .ok ((tab_Ref_moveAnswer_c2.getD i (82, .ifCond .ne 4, 3)).2.1, (tab_Ref_moveAnswer_c2.getD i (82, .ifCond .ne 4, 3)).2.2) := j_tab (by decide +kernel) i
theorem d_Ref_moveAnswer_82 : decode (jm_cod M_Ref_moveAnswer) 82 = .ok (.ifCond .ne 4, 3) := dt_Ref_moveAnswer_c2 0
theorem d_Ref_moveAnswer_85 : decode (jm_cod M_Ref_moveAnswer) 85 = .ok (.return_, 1) := dt_Ref_moveAnswer_c2 1
theorem d_Ref_moveAnswer_86 : decode (jm_cod M_Ref_moveAnswer) 86 = .ok (.aload_n 0, 1) := dt_Ref_moveAnswer_c2 2
theorem d_Ref_moveAnswer_87 : decode (jm_cod M_Ref_moveAnswer) 87 = .ok (.iconst 1, 1) := dt_Ref_moveAnswer_c2 3
theorem d_Ref_moveAnswer_88 : decode (jm_cod M_Ref_moveAnswer) 88 = .ok (.iload 4, 2) := dt_Ref_moveAnswer_c2 4
theorem d_Ref_moveAnswer_90 : decode (jm_cod M_Ref_moveAnswer) 90 = .ok (.iconst 2, 1) := dt_Ref_moveAnswer_c2 5
theorem d_Ref_moveAnswer_91 : decode (jm_cod M_Ref_moveAnswer) 91 = .ok (.invokevirtual 388, 3) := dt_Ref_moveAnswer_c2 6
theorem d_Ref_moveAnswer_94 : decode (jm_cod M_Ref_moveAnswer) 94 = .ok (.istore 5, 2) := dt_Ref_moveAnswer_c2 7
theorem d_Ref_moveAnswer_96 : decode (jm_cod M_Ref_moveAnswer) 96 = .ok (.aload_n 0, 1) := dt_Ref_moveAnswer_c2 8
theorem d_Ref_moveAnswer_97 : decode (jm_cod M_Ref_moveAnswer) 97 = .ok (.getfield 109, 3) := dt_Ref_moveAnswer_c2 9
theorem d_Ref_moveAnswer_100 : decode (jm_cod M_Ref_moveAnswer) 100 = .ok (.iconst 4, 1) := dt_Ref_moveAnswer_c2 10
theorem d_Ref_moveAnswer_101 : decode (jm_cod M_Ref_moveAnswer) 101 = .ok (.iload 5, 2) := dt_Ref_moveAnswer_c2 11
theorem d_Ref_moveAnswer_103 : decode (jm_cod M_Ref_moveAnswer) 103 = .ok (.imul, 1) := dt_Ref_moveAnswer_c2 12
theorem d_Ref_moveAnswer_104 : decode (jm_cod M_Ref_moveAnswer) 104 = .ok (.iaload, 1) := dt_Ref_moveAnswer_c2 13
theorem d_Ref_moveAnswer_105 : decode (jm_cod M_Ref_moveAnswer) 105 = .ok (.bipush 16, 2) := dt_Ref_moveAnswer_c2 14
theorem d_Ref_moveAnswer_107 : decode (jm_cod M_Ref_moveAnswer) 107 = .ok (.iload_n 1, 1) := dt_Ref_moveAnswer_c2 15
theorem d_Ref_moveAnswer_108 : decode (jm_cod M_Ref_moveAnswer) 108 = .ok (.imul, 1) := dt_Ref_moveAnswer_c2 16
theorem d_Ref_moveAnswer_109 : decode (jm_cod M_Ref_moveAnswer) 109 = .ok (.isub, 1) := dt_Ref_moveAnswer_c2 17
theorem d_Ref_moveAnswer_110 : decode (jm_cod M_Ref_moveAnswer) 110 = .ok (.istore 6, 2) := dt_Ref_moveAnswer_c2 18
theorem d_Ref_moveAnswer_112 : decode (jm_cod M_Ref_moveAnswer) 112 = .ok (.aload_n 0, 1) := dt_Ref_moveAnswer_c2 19
theorem d_Ref_moveAnswer_113 : decode (jm_cod M_Ref_moveAnswer) 113 = .ok (.iload 5, 2) := dt_Ref_moveAnswer_c2 20
theorem d_Ref_moveAnswer_115 : decode (jm_cod M_Ref_moveAnswer) 115 = .ok (.invokevirtual 473, 3) := dt_Ref_moveAnswer_c2 21
theorem d_Ref_moveAnswer_118 : decode (jm_cod M_Ref_moveAnswer) 118 = .ok (.aload_n 0, 1) := dt_Ref_moveAnswer_c2 22
theorem d_Ref_moveAnswer_119 : decode (jm_cod M_Ref_moveAnswer) 119 = .ok (.iload_n 2, 1) := dt_Ref_moveAnswer_c2 23
def tab_Ref_moveAnswer_c3 : List (Nat × Instr × Nat) := [(120, .lconst 0, 1), (121, .iload 6, 2), (123, .aload_n 0, 1), (124, .getfield 348, 3), (127, .invokevirtual 469, 3), (130, .aload_n 0, 1), (131, .getfield 145, 3), (134, .iload_n 1, 1), (135, .iload 4, 2), (137, .iastore, 1), (138, .iconst 0, 1), (139, .istore 7, 2), (141, .aload_n 0, 1), (142, .getfield 118, 3), (145, .iload 7, 2), (147, .iaload, 1), (148, .iload_n 1, 1), (149, .if_icmp .ne 18, 3), (152, .aload_n 0, 1), (153, .getfield 121, 3), (156, .iload 7, 2), (158, .iaload, 1), (159, .iload 6, 2), (161, .bipush 15, 2)]
theorem dt_Ref_moveAnswer_c3 (i : Nat) : decode (jm_cod M_Ref_moveAnswer) (tab_Ref_moveAnswer_c3.getD i (120, .lconst 0, 1)).1 = .ok ((tab_Ref_moveAnswer_c3.getD i (120, .lconst 0, 1)).2.1, (tab_Ref_moveAnswer_c3.getD i (120, .lconst 0, 1)).2.2) := j_tab (by decide +kernel) i
theorem d_Ref_moveAnswer_120 : decode (jm_cod M_Ref_moveAnswer) 120 = .ok (.lconst 0, 1) := dt_Ref_moveAnswer_c3 0
theorem d_Ref_moveAnswer_121 : decode (jm_cod M_Ref_moveAnswer) 121 = .ok (.iload 6, 2) := dt_Ref_moveAnswer_c3 1
theorem d_Ref_moveAnswer_123 : decode (jm_cod M_Ref_moveAnswer) 123 = .ok (.aload_n 0, 1) := dt_Ref_moveAnswer_c3 2
theorem d_Ref_moveAnswer_124 : decode (jm_cod M_Ref_moveAnswer) 124 = .ok (.getfield 348, 3) := dt_Ref_moveAnswer_c3 3
theorem d_Ref_moveAnswer_127 : decode (jm_cod M_Ref_moveAnswer) 127 = .ok (.invokevirtual 469, 3) := dt_Ref_moveAnswer_c3 4
theorem d_Ref_moveAnswer_130 : decode (jm_cod M_Ref_moveAnswer) 130 = .ok (.aload_n 0, 1) := dt_Ref_moveAnswer_c3 5
theorem d_Ref_moveAnswer_131 : decode (jm_cod M_Ref_moveAnswer) 131 = .ok (.getfield 145, 3) := dt_Ref_moveAnswer_c3 6
theorem d_Ref_moveAnswer_134 : decode (jm_cod M_Ref_moveAnswer) 134 = .ok (.iload_n 1, 1) := dt_Ref_moveAnswer_c3 7
theorem d_Ref_moveAnswer_135 : decode (jm_cod M_Ref_moveAnswer) 135 = .ok (.iload 4, 2) := dt_Ref_moveAnswer_c3 8
theorem d_Ref_moveAnswer_137 : decode (jm_cod M_Ref_moveAnswer) 137 = .ok (.iastore, 1) := dt_Ref_moveAnswer_c3 9
theorem d_Ref_moveAnswer_138 : decode (jm_cod M_Ref_moveAnswer) 138 = .ok (.iconst 0, 1) := dt_Ref_moveAnswer_c3 10
theorem d_Ref_moveAnswer_139 : decode (jm_cod M_Ref_moveAnswer) 139 = .ok (.istore 7, 2) := dt_Ref_moveAnswer_c3 11
theorem d_Ref_moveAnswer_141 : decode (jm_cod M_Ref_moveAnswer) 141 = .ok (.aload_n 0, 1) := dt_Ref_moveAnswer_c3 12
theorem d_Ref_moveAnswer_142 : decode (jm_cod M_Ref_moveAnswer) 142 = .ok (.getfield 118, 3) := dt_Ref_moveAnswer_c3 13
theorem d_Ref_moveAnswer_145 : decode (jm_cod M_Ref_moveAnswer) 145 = .ok (.iload 7, 2) := dt_Ref_moveAnswer_c3 14
theorem d_Ref_moveAnswer_147 : decode (jm_cod M_Ref_moveAnswer) 147 = .ok (.iaload, 1) := dt_Ref_moveAnswer_c3 15
theorem d_Ref_moveAnswer_148 : decode (jm_cod M_Ref_moveAnswer) 148 = .ok (.iload_n 1, 1) := dt_Ref_moveAnswer_c3 16
theorem d_Ref_moveAnswer_149 : decode (jm_cod M_Ref_moveAnswer) 149 = .ok (.if_icmp .ne 18, 3) := dt_Ref_moveAnswer_c3 17
theorem d_Ref_moveAnswer_152 : decode (jm_cod M_Ref_moveAnswer) 152 = .ok (.aload_n 0, 1) := dt_Ref_moveAnswer_c3 18
theorem d_Ref_moveAnswer_153 : decode (jm_cod M_Ref_moveAnswer) 153 = .ok (.getfield 121, 3) := dt_Ref_moveAnswer_c3 19
theorem d_Ref_moveAnswer_156 : decode (jm_cod M_Ref_moveAnswer) 156 = .ok (.iload 7, 2) := dt_Ref_moveAnswer_c3 20
theorem d_Ref_moveAnswer_158 : decode (jm_cod M_Ref_moveAnswer) 158 = .ok (.iaload, 1) := dt_Ref_moveAnswer_c3 21
theorem d_Ref_moveAnswer_159 : decode (jm_cod M_Ref_moveAnswer) 159 = .ok (.iload 6, 2) := dt_Ref_moveAnswer_c3 22
theorem d_Ref_moveAnswer_161 : decode (jm_cod M_Ref_moveAnswer) 161 = .ok (.bipush 15, 2) := dt_Ref_moveAnswer_c3 23
def tab_Ref_moveAnswer_c4 : List (Nat × Instr × Nat) := [(163, .iand, 1), (164, .if_icmp .eq 9, 3), (167, .iinc 7 1, 3), (170, .goto (-29), 3), (173, .aload_n 0, 1), (174, .dup, 1), (175, .getfield 526, 3), (178, .iconst 1, 1), (179, .isub, 1), (180, .putfield 526, 3), (183, .iload 7, 2), (185, .istore 8, 2), (187, .iload 8, 2), (189, .aload_n 0, 1), (190, .getfield 526, 3), (193, .if_icmp .ge 73, 3), (196, .aload_n 0, 1), (197, .getfield 118, 3), (200, .iload 8, 2), (202, .aload_n 0, 1), (203, .getfield 118, 3), (206, .iload 8, 2), (208, .iconst 1, 1), (209, .iadd, 1)]
theorem dt_Ref_moveAnswer_c4 (i : Nat) : decode (jm_cod M_Ref_moveAnswer) (tab_Ref_moveAnswer_c4.getD i (163, .iand, 1)).1 = .ok ((tab_Ref_moveAnswer_c4.getD i (163, .iand, 1)).2.1, (tab_Ref_moveAnswer_c4.getD i (163, .iand, 1)).2.2) := j_tab (by decide +kernel) i
theorem d_Ref_moveAnswer_163 : decode (jm_cod M_Ref_moveAnswer) 163 = .ok (.iand, 1) := dt_Ref_moveAnswer_c4 0
theorem d_Ref_moveAnswer_164 : decode (jm_cod M_Ref_moveAnswer) 164 = .ok (.if_icmp .eq 9, 3) := dt_Ref_moveAnswer_c4 1
theorem d_Ref_moveAnswer_167 : decode (jm_cod M_Ref_moveAnswer) 167 = .ok (.iinc 7 1, 3) := dt_Ref_moveAnswer_c4 2
theorem d_Ref_moveAnswer_170 : decode (jm_cod M_Ref_moveAnswer) 170 = .ok (.goto (-29), 3) := dt_Ref_moveAnswer_c4 3
theorem d_Ref_moveAnswer_173 : decode (jm_cod M_Ref_moveAnswer) 173 = .ok (.aload_n 0, 1) := dt_Ref_moveAnswer_c4 4
theorem d_Ref_moveAnswer_174 : decode (jm_cod M_Ref_moveAnswer) 174 = .ok (.dup, 1) := dt_Ref_moveAnswer_c4 5
theorem d_Ref_moveAnswer_175 : decode (jm_cod M_Ref_moveAnswer) 175 = .ok (.getfield 526, 3) := dt_Ref_moveAnswer_c4 6
theorem d_Ref_moveAnswer_178 : decode (jm_cod M_Ref_moveAnswer) 178 = .ok (.iconst 1, 1) := dt_Ref_moveAnswer_c4 7
theorem d_Ref_moveAnswer_179 : decode (jm_cod M_Ref_moveAnswer) 179 = .ok (.isub, 1) := dt_Ref_moveAnswer_c4 8
theorem d_Ref_moveAnswer_180 : decode (jm_cod M_Ref_moveAnswer) 180 = .ok (.putfield 526, 3) := dt_Ref_moveAnswer_c4 9
theorem d_Ref_moveAnswer_183 : decode (jm_cod M_Ref_moveAnswer) 183 = .ok (.iload 7, 2) := dt_Ref_moveAnswer_c4 10
theorem d_Ref_moveAnswer_185 : decode (jm_cod M_Ref_moveAnswer) 185 = .ok (.istore 8, 2) := dt_Ref_moveAnswer_c4 11
theorem d_Ref_moveAnswer_187 : decode (jm_cod M_Ref_moveAnswer) 187 = .ok (.iload 8, 2) := dt_Ref_moveAnswer_c4 12
theorem d_Ref_moveAnswer_189 : decode (jm_cod M_Ref_moveAnswer) 189 = .ok (.aload_n 0, 1) := dt_Ref_moveAnswer_c4 13
theorem d_Ref_moveAnswer_190 : decode (jm_cod M_Ref_moveAnswer) 190 = .ok (.getfield 526, 3) := dt_Ref_moveAnswer_c4 14
theorem d_Ref_moveAnswer_193 : decode (jm_cod M_Ref_moveAnswer) 193 = .ok (.if_icmp .ge 73, 3) := dt_Ref_moveAnswer_c4 15
theorem d_Ref_moveAnswer_196 : decode (jm_cod M_Ref_moveAnswer) 196 = .ok (.aload_n 0, 1) := dt_Ref_moveAnswer_c4 16
theorem d_Ref_moveAnswer_197 : decode (jm_cod M_Ref_moveAnswer) 197 = .ok (.getfield 118, 3) := dt_Ref_moveAnswer_c4 17
theorem d_Ref_moveAnswer_200 : decode (jm_cod M_Ref_moveAnswer) 200 = .ok (.iload 8, 2) := dt_Ref_moveAnswer_c4 18
theorem d_Ref_moveAnswer_202 : decode (jm_cod M_Ref_moveAnswer) 202 = .ok (.aload_n 0, 1) := dt_Ref_moveAnswer_c4 19
theorem d_Ref_moveAnswer_203 : decode (jm_cod M_Ref_moveAnswer) 203 = .ok (.getfield 118, 3) := dt_Ref_moveAnswer_c4 20
theorem d_Ref_moveAnswer_206 : decode (jm_cod M_Ref_moveAnswer) 206 = .ok (.iload 8, 2) := dt_Ref_moveAnswer_c4 21
theorem d_Ref_moveAnswer_208 : decode (jm_cod M_Ref_moveAnswer) 208 = .ok (.iconst 1, 1) := dt_Ref_moveAnswer_c4 22
theorem d_Ref_moveAnswer_209 : decode (jm_cod M_Ref_moveAnswer) 209 = .ok (.iadd, 1) := dt_Ref_moveAnswer_c4 23
def tab_Ref_moveAnswer_c5 : List (Nat × Instr × Nat) := [(210, .iaload, 1), (211, .iastore, 1), (212, .aload_n 0, 1), (213, .getfield 121, 3), (216, .iload 8, 2), (218, .aload_n 0, 1), (219, .getfield 121, 3), (222, .iload 8, 2), (224, .iconst 1, 1), (225, .iadd, 1), (226, .iaload, 1), (227, .iastore, 1), (228, .aload_n 0, 1), (229, .getfield 124, 3), (232, .iload 8, 2), (234, .aload_n 0, 1), (235, .getfield 124, 3), (238, .iload 8, 2), (240, .iconst 1, 1), (241, .iadd, 1), (242, .iaload, 1), (243, .iastore, 1), (244, .aload_n 0, 1), (245, .getfield 127, 3)]
theorem dt_Ref_moveAnswer_c5 (i : Nat) : decode (jm_cod M_Ref_moveAnswer) (tab_Ref_moveAnswer_c5.getD i (210, .iaload, 1)).1 = .ok ((tab_Ref_moveAnswer_c5.getD i (210, .iaload, 1)).2.1, (tab_Ref_moveAnswer_c5.getD i (210, .iaload, 1)).2.2) := j_tab (by decide +kernel) i
theorem d_Ref_moveAnswer_210 : decode (jm_cod M_Ref_moveAnswer) 210 = .ok (.iaload, 1) := dt_Ref_moveAnswer_c5 0
theorem d_Ref_moveAnswer_211 : decode (jm_cod M_Ref_moveAnswer) 211 = .ok (.iastore, 1) := dt_Ref_moveAnswer_c5 1
theorem d_Ref_moveAnswer_212 : decode (jm_cod M_Ref_moveAnswer) 212 = .ok (.aload_n 0, 1) := dt_Ref_moveAnswer_c5 2
theorem d_Ref_moveAnswer_213 : decode (jm_cod M_Ref_moveAnswer) 213 = .ok (.getfield 121, 3) := dt_Ref_moveAnswer_c5 3
theorem d_Ref_moveAnswer_216 : decode (jm_cod M_Ref_moveAnswer) 216 = .ok (.iload 8, 2) := dt_Ref_moveAnswer_c5 4
theorem d_Ref_moveAnswer_218 : decode (jm_cod M_Ref_moveAnswer) 218 = .ok (.aload_n 0, 1) := dt_Ref_moveAnswer_c5 5
theorem d_Ref_moveAnswer_219 : decode (jm_cod M_Ref_moveAnswer) 219 = .ok (.getfield 121, 3) := dt_Ref_moveAnswer_c5 6
theorem d_Ref_moveAnswer_222 : decode (jm_cod M_Ref_moveAnswer) 222 = .ok (.iload 8, 2) := dt_Ref_moveAnswer_c5 7
theorem d_Ref_moveAnswer_224 : decode (jm_cod M_Ref_moveAnswer) 224 = .ok (.iconst 1, 1) := dt_Ref_moveAnswer_c5 8
theorem d_Ref_moveAnswer_225 : decode (jm_cod M_Ref_moveAnswer) 225 = .ok (.iadd, 1) := dt_Ref_moveAnswer_c5 9
theorem d_Ref_moveAnswer_226 : decode (jm_cod M_Ref_moveAnswer) 226 = .ok (.iaload, 1) := dt_Ref_moveAnswer_c5 10
theorem d_Ref_moveAnswer_227 : decode (jm_cod M_Ref_moveAnswer) 227 = .ok (.iastore, 1) := dt_Ref_moveAnswer_c5 11
theorem d_Ref_moveAnswer_228 : decode (jm_cod M_Ref_moveAnswer) 228 = .ok (.aload_n 0, 1) := dt_Ref_moveAnswer_c5 12
theorem d_Ref_moveAnswer_229 : decode (jm_cod M_Ref_moveAnswer) 229 = .ok (.getfield 124, 3) := dt_Ref_moveAnswer_c5 13
theorem d_Ref_moveAnswer_232 : decode (jm_cod M_Ref_moveAnswer) 232 = .ok (.iload 8, 2) := dt_Ref_moveAnswer_c5 14
theorem d_Ref_moveAnswer_234 : decode (jm_cod M_Ref_moveAnswer) 234 = .ok (.aload_n 0, 1) := dt_Ref_moveAnswer_c5 15
theorem d_Ref_moveAnswer_235 : decode (jm_cod M_Ref_moveAnswer) 235 = .ok (.getfield 124, 3) := dt_Ref_moveAnswer_c5 16
theorem d_Ref_moveAnswer_238 : decode (jm_cod M_Ref_moveAnswer) 238 = .ok (.iload 8, 2) := dt_Ref_moveAnswer_c5 17
theorem d_Ref_moveAnswer_240 : decode (jm_cod M_Ref_moveAnswer) 240 = .ok (.iconst 1, 1) := dt_Ref_moveAnswer_c5 18
theorem d_Ref_moveAnswer_241 : decode (jm_cod M_Ref_moveAnswer) 241 = .ok (.iadd, 1) := dt_Ref_moveAnswer_c5 19
theorem d_Ref_moveAnswer_242 : decode (jm_cod M_Ref_moveAnswer) 242 = .ok (.iaload, 1) := dt_Ref_moveAnswer_c5 20
theorem d_Ref_moveAnswer_243 : decode (jm_cod M_Ref_moveAnswer) 243 = .ok (.iastore, 1) := dt_Ref_moveAnswer_c5 21
theorem d_Ref_moveAnswer_244 : decode (jm_cod M_Ref_moveAnswer) 244 = .ok (.aload_n 0, 1) := dt_Ref_moveAnswer_c5 22
theorem d_Ref_moveAnswer_245 : decode (jm_cod M_Ref_moveAnswer) 245 = .ok (.getfield 127, 3) := dt_Ref_moveAnswer_c5 23
def tab_Ref_moveAnswer_c6 : List (Nat × Instr × Nat) := [(248, .iload 8, 2), (250, .aload_n 0, 1), (251, .getfield 127, 3), (254, .iload 8, 2), (256, .iconst 1, 1), (257, .iadd, 1), (258, .iaload, 1), (259, .iastore, 1), (260, .iinc 8 1, 3), (263, .goto (-76), 3), (266, .return_, 1)]
theorem dt_Ref_moveAnswer_c6 (i : Nat) : decode (jm_cod M_Ref_moveAnswer) (tab_Ref_moveAnswer_c6.getD i (248, .iload 8, 2)).1 = .ok ((tab_Ref_moveAnswer_c6.getD i (248, .iload 8, 2)).2.1, (tab_Ref_moveAnswer_c6.getD i (248, .iload 8, 2)).2.2) := j_tab (by decide +kernel) i
theorem d_Ref_moveAnswer_248 : decode (jm_cod M_Ref_moveAnswer) 248 = .ok (.iload 8, 2) := dt_Ref_moveAnswer_c6 0
theorem d_Ref_moveAnswer_250 : decode (jm_cod M_Ref_moveAnswer) 250 = .ok (.aload_n 0, 1) := dt_Ref_moveAnswer_c6 1
theorem d_Ref_moveAnswer_251 : decode (jm_cod M_Ref_moveAnswer) 251 = .ok (.getfield 127, 3) := dt_Ref_moveAnswer_c6 2
theorem d_Ref_moveAnswer_254 : decode (jm_cod M_Ref_moveAnswer) 254 = .ok (.iload 8, 2) := dt_Ref_moveAnswer_c6 3
theorem d_Ref_moveAnswer_256 : decode (jm_cod M_Ref_moveAnswer) 256 = .ok (.iconst 1, 1) := dt_Ref_moveAnswer_c6 4
theorem d_Ref_moveAnswer_257 : decode (jm_cod M_Ref_moveAnswer) 257 = .ok (.iadd, 1) := dt_Ref_moveAnswer_c6 5
theorem d_Ref_moveAnswer_258 : decode (jm_cod M_Ref_moveAnswer) 258 = .ok (.iaload, 1) := dt_Ref_moveAnswer_c6 6
theorem d_Ref_moveAnswer_259 : decode (jm_cod M_Ref_moveAnswer) 259 = .ok (.iastore, 1) := dt_Ref_moveAnswer_c6 7
theorem d_Ref_moveAnswer_260 : decode (jm_cod M_Ref_moveAnswer) 260 = .ok (.iinc 8 1, 3) := dt_Ref_moveAnswer_c6 8
theorem d_Ref_moveAnswer_263 : decode (jm_cod M_Ref_moveAnswer) 263 = .ok (.goto (-76), 3) := dt_Ref_moveAnswer_c6 9
theorem d_Ref_moveAnswer_266 : decode (jm_cod M_Ref_moveAnswer) 266 = .ok (.return_, 1) := dt_Ref_moveAnswer_c6 10
def tab_Ref_isFor_c0 : List (Nat × Instr × Nat) := [(0, .aload_n 0, 1), (1, .iconst 1, 1), (2, .iload_n 1, 1), (3, .iload_n 2, 1), (4, .invokevirtual 388, 3), (7, .istore 4, 2), (9, .aload_n 0, 1), (10, .getfield 115, 3), (13, .iload 4, 2), (15, .iaload, 1), (16, .ifCond .le 26, 3), (19, .aload_n 0, 1), (20, .getfield 109, 3), (23, .iconst 4, 1), (24, .iload 4, 2), (26, .imul, 1), (27, .iaload, 1), (28, .bipush 63, 2), (30, .iand, 1), (31, .bipush 16, 2), (33, .idiv, 1), (34, .iload_n 3, 1), (35, .if_icmp .ne 7, 3), (38, .iconst 1, 1)]
theorem dt_Ref_isFor_c0 (i : Nat) : decode (jm_cod M_Ref_isFor) (tab_Ref_isFor_c0.getD i (0, .aload_n 0, 1)).1 = .ok ((tab_Ref_isFor_c0.getD i (0, .aload_n 0, 1)).2.1, (tab_Ref_isFor_c0.getD i (0, .aload_n 0, 1)).2.2) := j_tab (by decide +kernel) i
theorem d_Ref_isFor_0 : decode (jm_cod M_Ref_isFor) 0 = .ok (.aload_n 0, 1) := dt_Ref_isFor_c0 0
theorem d_Ref_isFor_1 : decode (jm_cod M_Ref_isFor) 1 = .ok (.iconst 1, 1) := dt_Ref_isFor_c0 1
theorem d_Ref_isFor_2 : decode (jm_cod M_Ref_isFor) 2 = .ok (.iload_n 1, 1) := dt_Ref_isFor_c0 2
theorem d_Ref_isFor_3 : decode (jm_cod M_Ref_isFor) 3 = .ok (.iload_n 2, 1) := dt_Ref_isFor_c0 3
theorem d_Ref_isFor_4 : decode (jm_cod M_Ref_isFor) 4 = .ok (.invokevirtual 388, 3) := dt_Ref_isFor_c0 4
theorem d_Ref_isFor_7 : decode (jm_cod M_Ref_isFor) 7 = .ok (.istore 4, 2) := dt_Ref_isFor_c0 5
theorem d_Ref_isFor_9 : decode (jm_cod M_Ref_isFor) 9 = .ok (.aload_n 0, 1) := dt_Ref_isFor_c0 6
theorem d_Ref_isFor_10 : decode (jm_cod M_Ref_isFor) 10 = .ok (.getfield 115, 3) := dt_Ref_isFor_c0 7
theorem d_Ref_isFor_13 : decode (jm_cod M_Ref_isFor) 13 = .ok (.iload 4, 2) := dt_Ref_isFor_c0 8
theorem d_Ref_isFor_15 : decode (jm_cod M_Ref_isFor) 15 = .ok (.iaload, 1) := dt_Ref_isFor_c0 9
theorem d_Ref_isFor_16 : decode (jm_cod M_Ref_isFor) 16 = .ok (.ifCond .le 26, 3) := dt_Ref_isFor_c0 10
theorem d_Ref_isFor_19 : decode (jm_cod M_Ref_isFor) 19 = .ok (.aload_n 0, 1) := dt_Ref_isFor_c0 11
theorem d_Ref_isFor_20 : decode (jm_cod M_Ref_isFor) 20 = .ok (.getfield 109, 3) := dt_Ref_isFor_c0 12
theorem d_Ref_isFor_23 : decode (jm_cod M_Ref_isFor) 23 = .ok (.iconst 4, 1) := dt_Ref_isFor_c0 13
theorem d_Ref_isFor_24 : decode (jm_cod M_Ref_isFor) 24 = .ok (.iload 4, 2) := dt_Ref_isFor_c0 14
theorem d_Ref_isFor_26 : decode (jm_cod M_Ref_isFor) 26 = .ok (.imul, 1) := dt_Ref_isFor_c0 15
theorem d_Ref_isFor_27 : decode (jm_cod M_Ref_isFor) 27 = .ok (.iaload, 1) := dt_Ref_isFor_c0 16
theorem d_Ref_isFor_28 : decode (jm_cod M_Ref_isFor) 28 = .ok (.bipush 63, 2) := dt_Ref_isFor_c0 17
theorem d_Ref_isFor_30 : decode (jm_cod M_Ref_isFor) 30 = .ok (.iand, 1) := dt_Ref_isFor_c0 18
theorem d_Ref_isFor_31 : decode (jm_cod M_Ref_isFor) 31 = .ok (.bipush 16, 2) := dt_Ref_isFor_c0 19
theorem d_Ref_isFor_33 : decode (jm_cod M_Ref_isFor) 33 = .ok (.idiv, 1) := dt_Ref_isFor_c0 20
theorem d_Ref_isFor_34 : decode (jm_cod M_Ref_isFor) 34 = .ok (.iload_n 3, 1) := dt_Ref_isFor_c0 21
theorem d_Ref_isFor_35 : decode (jm_cod M_Ref_isFor) 35 = .ok (.if_icmp .ne 7, 3) := dt_Ref_isFor_c0 22
theorem d_Ref_isFor_38 : decode (jm_cod M_Ref_isFor) 38 = .ok (.iconst 1, 1) := dt_Ref_isFor_c0 23
def tab_Ref_isFor_c1 : List (Nat × Instr × Nat) := [(39, .goto 4, 3), (42, .iconst 0, 1), (43, .ireturn, 1)]
theorem dt_Ref_isFor_c1 (i : Nat) : decode (jm_cod M_Ref_isFor) (tab_Ref_isFor_c1.getD i (39, .goto 4, 3)).1 = .ok ((tab_Ref_isFor_c1.getD i (39, .goto 4, 3)).2.1, (tab_Ref_isFor_c1.getD i (39, .goto 4, 3)).2.2) := j_tab (by decide +kernel) i
theorem d_Ref_isFor_39 : decode (jm_cod M_Ref_isFor) 39 = .ok (.goto 4, 3) := dt_Ref_isFor_c1 0
theorem d_Ref_isFor_42 : decode (jm_cod M_Ref_isFor) 42 = .ok (.iconst 0, 1) := dt_Ref_isFor_c1 1
theorem d_Ref_isFor_43 : decode (jm_cod M_Ref_isFor) 43 = .ok (.ireturn, 1) := dt_Ref_isFor_c1 2
def tab_Ref_moveBeat_c0 : List (Nat × Instr × Nat) := [(0, .aload_n 0, 1), (1, .iconst 0, 1), (2, .iload_n 1, 1), (3, .iconst 4, 1), (4, .invokevirtual 388, 3), (7, .istore_n 2, 1), (8, .aload_n 0, 1), (9, .getfield 294, 3), (12, .iconst 1, 1), (13, .iadd, 1), (14, .istore_n 3, 1), (15, .iconst (-1), 1), (16, .istore 4, 2), (18, .iconst 1, 1), (19, .istore 5, 2), (21, .iload 5, 2), (23, .iload_n 3, 1), (24, .if_icmp .gt 47, 3), (27, .iload 4, 2), (29, .iconst (-1), 1), (30, .if_icmp .ne 41, 3), (33, .aload_n 0, 1), (34, .getfield 148, 3), (37, .iload_n 1, 1)]
theorem dt_Ref_moveBeat_c0 (i : Nat) : decode (jm_cod M_Ref_moveBeat) (tab_Ref_moveBeat_c0.getD i (0, .aload_n 0, 1)).1 = .ok ((tab_Ref_moveBeat_c0.getD i (0, .aload_n 0, 1)).2.1, (tab_Ref_moveBeat_c0.getD i (0, .aload_n 0, 1)).2.2) := j_tab (by decide +kernel) i
theorem d_Ref_moveBeat_0 : decode (jm_cod M_Ref_moveBeat) 0 = .ok (.aload_n 0, 1) := dt_Ref_moveBeat_c0 0
theorem d_Ref_moveBeat_1 : decode (jm_cod M_Ref_moveBeat) 1 = .ok (.iconst 0, 1) := dt_Ref_moveBeat_c0 1
theorem d_Ref_moveBeat_2 : decode (jm_cod M_Ref_moveBeat) 2 = .ok (.iload_n 1, 1) := dt_Ref_moveBeat_c0 2
theorem d_Ref_moveBeat_3 : decode (jm_cod M_Ref_moveBeat) 3 = .ok (.iconst 4, 1) := dt_Ref_moveBeat_c0 3
theorem d_Ref_moveBeat_4 : decode (jm_cod M_Ref_moveBeat) 4 = .ok (.invokevirtual 388, 3) := dt_Ref_moveBeat_c0 4
theorem d_Ref_moveBeat_7 : decode (jm_cod M_Ref_moveBeat) 7 = .ok (.istore_n 2, 1) := dt_Ref_moveBeat_c0 5
theorem d_Ref_moveBeat_8 : decode (jm_cod M_Ref_moveBeat) 8 = .ok (.aload_n 0, 1) := dt_Ref_moveBeat_c0 6
theorem d_Ref_moveBeat_9 : decode (jm_cod M_Ref_moveBeat) 9 = .ok (.getfield 294, 3) := dt_Ref_moveBeat_c0 7
theorem d_Ref_moveBeat_12 : decode (jm_cod M_Ref_moveBeat) 12 = .ok (.iconst 1, 1) := dt_Ref_moveBeat_c0 8
theorem d_Ref_moveBeat_13 : decode (jm_cod M_Ref_moveBeat) 13 = .ok (.iadd, 1) := dt_Ref_moveBeat_c0 9
theorem d_Ref_moveBeat_14 : decode (jm_cod M_Ref_moveBeat) 14 = .ok (.istore_n 3, 1) := dt_Ref_moveBeat_c0 10
theorem d_Ref_moveBeat_15 : decode (jm_cod M_Ref_moveBeat) 15 = .ok (.iconst (-1), 1) := dt_Ref_moveBeat_c0 11
theorem d_Ref_moveBeat_16 : decode (jm_cod M_Ref_moveBeat) 16 = .ok (.istore 4, 2) := dt_Ref_moveBeat_c0 12
theorem d_Ref_moveBeat_18 : decode (jm_cod M_Ref_moveBeat) 18 = .ok (.iconst 1, 1) := dt_Ref_moveBeat_c0 13
theorem d_Ref_moveBeat_19 : decode (jm_cod M_Ref_moveBeat) 19 = .ok (.istore 5, 2) := dt_Ref_moveBeat_c0 14
theorem d_Ref_moveBeat_21 : decode (jm_cod M_Ref_moveBeat) 21 = .ok (.iload 5, 2) := dt_Ref_moveBeat_c0 15
theorem d_Ref_moveBeat_23 : decode (jm_cod M_Ref_moveBeat) 23 = .ok (.iload_n 3, 1) := dt_Ref_moveBeat_c0 16
theorem d_Ref_moveBeat_24 : decode (jm_cod M_Ref_moveBeat) 24 = .ok (.if_icmp .gt 47, 3) := dt_Ref_moveBeat_c0 17
theorem d_Ref_moveBeat_27 : decode (jm_cod M_Ref_moveBeat) 27 = .ok (.iload 4, 2) := dt_Ref_moveBeat_c0 18
theorem d_Ref_moveBeat_29 : decode (jm_cod M_Ref_moveBeat) 29 = .ok (.iconst (-1), 1) := dt_Ref_moveBeat_c0 19
theorem d_Ref_moveBeat_30 : decode (jm_cod M_Ref_moveBeat) 30 = .ok (.if_icmp .ne 41, 3) := dt_Ref_moveBeat_c0 20
theorem d_Ref_moveBeat_33 : decode (jm_cod M_Ref_moveBeat) 33 = .ok (.aload_n 0, 1) := dt_Ref_moveBeat_c0 21
theorem d_Ref_moveBeat_34 : decode (jm_cod M_Ref_moveBeat) 34 = .ok (.getfield 148, 3) := dt_Ref_moveBeat_c0 22
theorem d_Ref_moveBeat_37 : decode (jm_cod M_Ref_moveBeat) 37 = .ok (.iload_n 1, 1) := dt_Ref_moveBeat_c0 23
def tab_Ref_moveBeat_c1 : List (Nat × Instr × Nat) := [(38, .iaload, 1), (39, .iload 5, 2), (41, .iadd, 1), (42, .iload_n 3, 1), (43, .irem, 1), (44, .istore 6, 2), (46, .aload_n 0, 1), (47, .iload 6, 2), (49, .iconst 4, 1), (50, .iload_n 1, 1), (51, .invokevirtual 556, 3), (54, .ifCond .eq 8, 3), (57, .iload 6, 2), (59, .goto 4, 3), (62, .iconst (-1), 1), (63, .istore 4, 2), (65, .iinc 5 1, 3), (68, .goto (-47), 3), (71, .aload_n 0, 1), (72, .getfield 559, 3), (75, .ifCond .eq 39, 3), (78, .aload_n 0, 1), (79, .getfield 151, 3), (82, .iload_n 1, 1)]
theorem dt_Ref_moveBeat_c1 (i : Nat) : decode (jm_cod M_Ref_moveBeat) (tab_Ref_moveBeat_c1.getD i (38, .iaload, 1)).1 = .ok ((tab_Ref_moveBeat_c1.getD i (38, .iaload, 1)).2.1, (tab_Ref_moveBeat_c1.getD i (38, .iaload, 1)).2.2) := j_tab (by decide +kernel) i
theorem d_Ref_moveBeat_38 : decode (jm_cod M_Ref_moveBeat) 38 = .ok (.iaload, 1) := dt_Ref_moveBeat_c1 0
theorem d_Ref_moveBeat_39 : decode (jm_cod M_Ref_moveBeat) 39 = .ok (.iload 5, 2) := dt_Ref_moveBeat_c1 1
theorem d_Ref_moveBeat_41 : decode (jm_cod M_Ref_moveBeat) 41 = .ok (.iadd, 1) := dt_Ref_moveBeat_c1 2
theorem d_Ref_moveBeat_42 : decode (jm_cod M_Ref_moveBeat) 42 = .ok (.iload_n 3, 1) := dt_Ref_moveBeat_c1 3
theorem d_Ref_moveBeat_43 : decode (jm_cod M_Ref_moveBeat) 43 = .ok (.irem, 1) := dt_Ref_moveBeat_c1 4
theorem d_Ref_moveBeat_44 : decode (jm_cod M_Ref_moveBeat) 44 = .ok (.istore 6, 2) := dt_Ref_moveBeat_c1 5
theorem d_Ref_moveBeat_46 : decode (jm_cod M_Ref_moveBeat) 46 = .ok (.aload_n 0, 1) := dt_Ref_moveBeat_c1 6
theorem d_Ref_moveBeat_47 : decode (jm_cod M_Ref_moveBeat) 47 = .ok (.iload 6, 2) := dt_Ref_moveBeat_c1 7
theorem d_Ref_moveBeat_49 : decode (jm_cod M_Ref_moveBeat) 49 = .ok (.iconst 4, 1) := dt_Ref_moveBeat_c1 8
theorem d_Ref_moveBeat_50 : decode (jm_cod M_Ref_moveBeat) 50 = .ok (.iload_n 1, 1) := dt_Ref_moveBeat_c1 9
theorem d_Ref_moveBeat_51 : decode (jm_cod M_Ref_moveBeat) 51 = .ok (.invokevirtual 556, 3) := dt_Ref_moveBeat_c1 10
theorem d_Ref_moveBeat_54 : decode (jm_cod M_Ref_moveBeat) 54 = .ok (.ifCond .eq 8, 3) := dt_Ref_moveBeat_c1 11
theorem d_Ref_moveBeat_57 : decode (jm_cod M_Ref_moveBeat) 57 = .ok (.iload 6, 2) := dt_Ref_moveBeat_c1 12
theorem d_Ref_moveBeat_59 : decode (jm_cod M_Ref_moveBeat) 59 = .ok (.goto 4, 3) := dt_Ref_moveBeat_c1 13
theorem d_Ref_moveBeat_62 : decode (jm_cod M_Ref_moveBeat) 62 = .ok (.iconst (-1), 1) := dt_Ref_moveBeat_c1 14
theorem d_Ref_moveBeat_63 : decode (jm_cod M_Ref_moveBeat) 63 = .ok (.istore 4, 2) := dt_Ref_moveBeat_c1 15
theorem d_Ref_moveBeat_65 : decode (jm_cod M_Ref_moveBeat) 65 = .ok (.iinc 5 1, 3) := dt_Ref_moveBeat_c1 16
theorem d_Ref_moveBeat_68 : decode (jm_cod M_Ref_moveBeat) 68 = .ok (.goto (-47), 3) := dt_Ref_moveBeat_c1 17
theorem d_Ref_moveBeat_71 : decode (jm_cod M_Ref_moveBeat) 71 = .ok (.aload_n 0, 1) := dt_Ref_moveBeat_c1 18
theorem d_Ref_moveBeat_72 : decode (jm_cod M_Ref_moveBeat) 72 = .ok (.getfield 559, 3) := dt_Ref_moveBeat_c1 19
theorem d_Ref_moveBeat_75 : decode (jm_cod M_Ref_moveBeat) 75 = .ok (.ifCond .eq 39, 3) := dt_Ref_moveBeat_c1 20
theorem d_Ref_moveBeat_78 : decode (jm_cod M_Ref_moveBeat) 78 = .ok (.aload_n 0, 1) := dt_Ref_moveBeat_c1 21
theorem d_Ref_moveBeat_79 : decode (jm_cod M_Ref_moveBeat) 79 = .ok (.getfield 151, 3) := dt_Ref_moveBeat_c1 22
theorem d_Ref_moveBeat_82 : decode (jm_cod M_Ref_moveBeat) 82 = .ok (.iload_n 1, 1) := dt_Ref_moveBeat_c1 23
def tab_Ref_moveBeat_c2 : List (Nat × Instr × Nat) := [(83, .baload, 1), (84, .ifCond .eq 30, 3), (87, .aload_n 0, 1), (88, .aload_n 0, 1), (89, .getfield 148, 3), (92, .iload_n 1, 1), (93, .iaload, 1), (94, .iconst 4, 1), (95, .iload_n 1, 1), (96, .invokevirtual 556, 3), (99, .ifCond .eq 12, 3), (102, .aload_n 0, 1), (103, .getfield 148, 3), (106, .iload_n 1, 1), (107, .iaload, 1), (108, .goto 4, 3), (111, .iconst (-1), 1), (112, .istore 4, 2), (114, .iload 4, 2), (116, .iconst (-1), 1), (117, .if_icmp .eq 11, 3), (120, .aload_n 0, 1), (121, .iload_n 2, 1), (122, .invokevirtual 392, 3)]
theorem dt_Ref_moveBeat_c2 (i : Nat) : decode (jm_cod M_Ref_moveBeat) (tab_Ref_moveBeat_c2.getD i (83, .baload, 1)).1 = .ok ((tab_Ref_moveBeat_c2.getD i (83, .baload, 1)).2.1, (tab_Ref_moveBeat_c2.getD i (83, .baload, 1)).2.2) := j_tab (by decide +kernel) i
theorem d_Ref_moveBeat_83 : decode (jm_cod M_Ref_moveBeat) 83 = .ok (.baload, 1) := dt_Ref_moveBeat_c2 0
theorem d_Ref_moveBeat_84 : decode (jm_cod M_Ref_moveBeat) 84 = .ok (.ifCond .eq 30, 3) := dt_Ref_moveBeat_c2 1
theorem d_Ref_moveBeat_87 : decode (jm_cod M_Ref_moveBeat) 87 = .ok (.aload_n 0, 1) := dt_Ref_moveBeat_c2 2
theorem d_Ref_moveBeat_88 : decode (jm_cod M_Ref_moveBeat) 88 = .ok (.aload_n 0, 1) := dt_Ref_moveBeat_c2 3
theorem d_Ref_moveBeat_89 : decode (jm_cod M_Ref_moveBeat) 89 = .ok (.getfield 148, 3) := dt_Ref_moveBeat_c2 4
theorem d_Ref_moveBeat_92 : decode (jm_cod M_Ref_moveBeat) 92 = .ok (.iload_n 1, 1) := dt_Ref_moveBeat_c2 5
theorem d_Ref_moveBeat_93 : decode (jm_cod M_Ref_moveBeat) 93 = .ok (.iaload, 1) := dt_Ref_moveBeat_c2 6
theorem d_Ref_moveBeat_94 : decode (jm_cod M_Ref_moveBeat) 94 = .ok (.iconst 4, 1) := dt_Ref_moveBeat_c2 7
theorem d_Ref_moveBeat_95 : decode (jm_cod M_Ref_moveBeat) 95 = .ok (.iload_n 1, 1) := dt_Ref_moveBeat_c2 8
theorem d_Ref_moveBeat_96 : decode (jm_cod M_Ref_moveBeat) 96 = .ok (.invokevirtual 556, 3) := dt_Ref_moveBeat_c2 9
theorem d_Ref_moveBeat_99 : decode (jm_cod M_Ref_moveBeat) 99 = .ok (.ifCond .eq 12, 3) := dt_Ref_moveBeat_c2 10
theorem d_Ref_moveBeat_102 : decode (jm_cod M_Ref_moveBeat) 102 = .ok (.aload_n 0, 1) := dt_Ref_moveBeat_c2 11
theorem d_Ref_moveBeat_103 : decode (jm_cod M_Ref_moveBeat) 103 = .ok (.getfield 148, 3) := dt_Ref_moveBeat_c2 12
theorem d_Ref_moveBeat_106 : decode (jm_cod M_Ref_moveBeat) 106 = .ok (.iload_n 1, 1) := dt_Ref_moveBeat_c2 13
theorem d_Ref_moveBeat_107 : decode (jm_cod M_Ref_moveBeat) 107 = .ok (.iaload, 1) := dt_Ref_moveBeat_c2 14
theorem d_Ref_moveBeat_108 : decode (jm_cod M_Ref_moveBeat) 108 = .ok (.goto 4, 3) := dt_Ref_moveBeat_c2 15
theorem d_Ref_moveBeat_111 : decode (jm_cod M_Ref_moveBeat) 111 = .ok (.iconst (-1), 1) := dt_Ref_moveBeat_c2 16
theorem d_Ref_moveBeat_112 : decode (jm_cod M_Ref_moveBeat) 112 = .ok (.istore 4, 2) := dt_Ref_moveBeat_c2 17
theorem d_Ref_moveBeat_114 : decode (jm_cod M_Ref_moveBeat) 114 = .ok (.iload 4, 2) := dt_Ref_moveBeat_c2 18
theorem d_Ref_moveBeat_116 : decode (jm_cod M_Ref_moveBeat) 116 = .ok (.iconst (-1), 1) := dt_Ref_moveBeat_c2 19
theorem d_Ref_moveBeat_117 : decode (jm_cod M_Ref_moveBeat) 117 = .ok (.if_icmp .eq 11, 3) := dt_Ref_moveBeat_c2 20
theorem d_Ref_moveBeat_120 : decode (jm_cod M_Ref_moveBeat) 120 = .ok (.aload_n 0, 1) := dt_Ref_moveBeat_c2 21
theorem d_Ref_moveBeat_121 : decode (jm_cod M_Ref_moveBeat) 121 = .ok (.iload_n 2, 1) := dt_Ref_moveBeat_c2 22
theorem d_Ref_moveBeat_122 : decode (jm_cod M_Ref_moveBeat) 122 = .ok (.invokevirtual 392, 3) := dt_Ref_moveBeat_c2 23
def tab_Ref_moveBeat_c3 : List (Nat × Instr × Nat) := [(125, .ifCond .ne 4, 3), (128, .return_, 1), (129, .aload_n 0, 1), (130, .iconst 1, 1), (131, .iload 4, 2), (133, .iconst 4, 1), (134, .invokevirtual 388, 3), (137, .istore 5, 2), (139, .aload_n 0, 1), (140, .getfield 109, 3), (143, .iconst 4, 1), (144, .iload 5, 2), (146, .imul, 1), (147, .iaload, 1), (148, .bipush 16, 2), (150, .iload_n 1, 1), (151, .imul, 1), (152, .isub, 1), (153, .istore 6, 2), (155, .aload_n 0, 1), (156, .iload_n 2, 1), (157, .aload_n 0, 1), (158, .getfield 106, 3), (161, .iconst 4, 1)]
theorem dt_Ref_moveBeat_c3 (i : Nat) : decode (jm_cod M_Ref_moveBeat) (tab_Ref_moveBeat_c3.getD i (125, .ifCond .ne 4, 3)).1 = .ok ((tab_Ref_moveBeat_c3.getD i (125, .ifCond .ne 4, 3)).2.1, (tab_Ref_moveBeat_c3.getD i (125, .ifCond .ne 4, 3)).2.2) := j_tab (by decide +kernel) i
theorem d_Ref_moveBeat_125 : decode (jm_cod M_Ref_moveBeat) 125 = .ok (.ifCond .ne 4, 3) := dt_Ref_moveBeat_c3 0
theorem d_Ref_moveBeat_128 : decode (jm_cod M_Ref_moveBeat) 128 = .ok (.return_, 1) := dt_Ref_moveBeat_c3 1
theorem d_Ref_moveBeat_129 : decode (jm_cod M_Ref_moveBeat) 129 = .ok (.aload_n 0, 1) := dt_Ref_moveBeat_c3 2
theorem d_Ref_moveBeat_130 : decode (jm_cod M_Ref_moveBeat) 130 = .ok (.iconst 1, 1) := dt_Ref_moveBeat_c3 3
theorem d_Ref_moveBeat_131 : decode (jm_cod M_Ref_moveBeat) 131 = .ok (.iload 4, 2) := dt_Ref_moveBeat_c3 4
theorem d_Ref_moveBeat_133 : decode (jm_cod M_Ref_moveBeat) 133 = .ok (.iconst 4, 1) := dt_Ref_moveBeat_c3 5
theorem d_Ref_moveBeat_134 : decode (jm_cod M_Ref_moveBeat) 134 = .ok (.invokevirtual 388, 3) := dt_Ref_moveBeat_c3 6
theorem d_Ref_moveBeat_137 : decode (jm_cod M_Ref_moveBeat) 137 = .ok (.istore 5, 2) := dt_Ref_moveBeat_c3 7
theorem d_Ref_moveBeat_139 : decode (jm_cod M_Ref_moveBeat) 139 = .ok (.aload_n 0, 1) := dt_Ref_moveBeat_c3 8
theorem d_Ref_moveBeat_140 : decode (jm_cod M_Ref_moveBeat) 140 = .ok (.getfield 109, 3) := dt_Ref_moveBeat_c3 9
theorem d_Ref_moveBeat_143 : decode (jm_cod M_Ref_moveBeat) 143 = .ok (.iconst 4, 1) := dt_Ref_moveBeat_c3 10
theorem d_Ref_moveBeat_144 : decode (jm_cod M_Ref_moveBeat) 144 = .ok (.iload 5, 2) := dt_Ref_moveBeat_c3 11
theorem d_Ref_moveBeat_146 : decode (jm_cod M_Ref_moveBeat) 146 = .ok (.imul, 1) := dt_Ref_moveBeat_c3 12
theorem d_Ref_moveBeat_147 : decode (jm_cod M_Ref_moveBeat) 147 = .ok (.iaload, 1) := dt_Ref_moveBeat_c3 13
theorem d_Ref_moveBeat_148 : decode (jm_cod M_Ref_moveBeat) 148 = .ok (.bipush 16, 2) := dt_Ref_moveBeat_c3 14
theorem d_Ref_moveBeat_150 : decode (jm_cod M_Ref_moveBeat) 150 = .ok (.iload_n 1, 1) := dt_Ref_moveBeat_c3 15
theorem d_Ref_moveBeat_151 : decode (jm_cod M_Ref_moveBeat) 151 = .ok (.imul, 1) := dt_Ref_moveBeat_c3 16
theorem d_Ref_moveBeat_152 : decode (jm_cod M_Ref_moveBeat) 152 = .ok (.isub, 1) := dt_Ref_moveBeat_c3 17
theorem d_Ref_moveBeat_153 : decode (jm_cod M_Ref_moveBeat) 153 = .ok (.istore 6, 2) := dt_Ref_moveBeat_c3 18
theorem d_Ref_moveBeat_155 : decode (jm_cod M_Ref_moveBeat) 155 = .ok (.aload_n 0, 1) := dt_Ref_moveBeat_c3 19
theorem d_Ref_moveBeat_156 : decode (jm_cod M_Ref_moveBeat) 156 = .ok (.iload_n 2, 1) := dt_Ref_moveBeat_c3 20
theorem d_Ref_moveBeat_157 : decode (jm_cod M_Ref_moveBeat) 157 = .ok (.aload_n 0, 1) := dt_Ref_moveBeat_c3 21
theorem d_Ref_moveBeat_158 : decode (jm_cod M_Ref_moveBeat) 158 = .ok (.getfield 106, 3) := dt_Ref_moveBeat_c3 22
theorem d_Ref_moveBeat_161 : decode (jm_cod M_Ref_moveBeat) 161 = .ok (.iconst 4, 1) := dt_Ref_moveBeat_c3 23
def tab_Ref_moveBeat_c4 : List (Nat × Instr × Nat) := [(162, .iload 5, 2), (164, .imul, 1), (165, .laload, 1), (166, .iload 6, 2), (168, .aload_n 0, 1), (169, .getfield 348, 3), (172, .invokevirtual 469, 3), (175, .aload_n 0, 1), (176, .iload 5, 2), (178, .invokevirtual 473, 3), (181, .aload_n 0, 1), (182, .getfield 148, 3), (185, .iload_n 1, 1), (186, .iload 4, 2), (188, .iastore, 1), (189, .aload_n 0, 1), (190, .getfield 151, 3), (193, .iload_n 1, 1), (194, .iload 6, 2), (196, .sipush 256, 3), (199, .iand, 1), (200, .ifCond .ne 7, 3), (203, .iconst 1, 1), (204, .goto 4, 3)]
theorem dt_Ref_moveBeat_c4 (i : Nat) : decode (jm_cod M_Ref_moveBeat) (tab_Ref_moveBeat_c4.getD i (162, .iload 5, 2)).1 = .ok ((tab_Ref_moveBeat_c4.getD i (162, .iload 5, 2)).2.1, (tab_Ref_moveBeat_c4.getD i (162, .iload 5, 2)).2.2) := j_tab (by decide +kernel) i
theorem d_Ref_moveBeat_162 : decode (jm_cod M_Ref_moveBeat) 162 = .ok (.iload 5, 2) := dt_Ref_moveBeat_c4 0
theorem d_Ref_moveBeat_164 : decode (jm_cod M_Ref_moveBeat) 164 = .ok (.imul, 1) := dt_Ref_moveBeat_c4 1
theorem d_Ref_moveBeat_165 : decode (jm_cod M_Ref_moveBeat) 165 = .ok (.laload, 1) := dt_Ref_moveBeat_c4 2
theorem d_Ref_moveBeat_166 : decode (jm_cod M_Ref_moveBeat) 166 = .ok (.iload 6, 2) := dt_Ref_moveBeat_c4 3
theorem d_Ref_moveBeat_168 : decode (jm_cod M_Ref_moveBeat) 168 = .ok (.aload_n 0, 1) := dt_Ref_moveBeat_c4 4
theorem d_Ref_moveBeat_169 : decode (jm_cod M_Ref_moveBeat) 169 = .ok (.getfield 348, 3) := dt_Ref_moveBeat_c4 5
theorem d_Ref_moveBeat_172 : decode (jm_cod M_Ref_moveBeat) 172 = .ok (.invokevirtual 469, 3) := dt_Ref_moveBeat_c4 6
theorem d_Ref_moveBeat_175 : decode (jm_cod M_Ref_moveBeat) 175 = .ok (.aload_n 0, 1) := dt_Ref_moveBeat_c4 7
theorem d_Ref_moveBeat_176 : decode (jm_cod M_Ref_moveBeat) 176 = .ok (.iload 5, 2) := dt_Ref_moveBeat_c4 8
theorem d_Ref_moveBeat_178 : decode (jm_cod M_Ref_moveBeat) 178 = .ok (.invokevirtual 473, 3) := dt_Ref_moveBeat_c4 9
theorem d_Ref_moveBeat_181 : decode (jm_cod M_Ref_moveBeat) 181 = .ok (.aload_n 0, 1) := dt_Ref_moveBeat_c4 10
theorem d_Ref_moveBeat_182 : decode (jm_cod M_Ref_moveBeat) 182 = .ok (.getfield 148, 3) := dt_Ref_moveBeat_c4 11
theorem d_Ref_moveBeat_185 : decode (jm_cod M_Ref_moveBeat) 185 = .ok (.iload_n 1, 1) := dt_Ref_moveBeat_c4 12
theorem d_Ref_moveBeat_186 : decode (jm_cod M_Ref_moveBeat) 186 = .ok (.iload 4, 2) := dt_Ref_moveBeat_c4 13
theorem d_Ref_moveBeat_188 : decode (jm_cod M_Ref_moveBeat) 188 = .ok (.iastore, 1) := dt_Ref_moveBeat_c4 14
theorem d_Ref_moveBeat_189 : decode (jm_cod M_Ref_moveBeat) 189 = .ok (.aload_n 0, 1) := dt_Ref_moveBeat_c4 15
theorem d_Ref_moveBeat_190 : decode (jm_cod M_Ref_moveBeat) 190 = .ok (.getfield 151, 3) := dt_Ref_moveBeat_c4 16
theorem d_Ref_moveBeat_193 : decode (jm_cod M_Ref_moveBeat) 193 = .ok (.iload_n 1, 1) := dt_Ref_moveBeat_c4 17
theorem d_Ref_moveBeat_194 : decode (jm_cod M_Ref_moveBeat) 194 = .ok (.iload 6, 2) := dt_Ref_moveBeat_c4 18
theorem d_Ref_moveBeat_196 : decode (jm_cod M_Ref_moveBeat) 196 = .ok (.sipush 256, 3) := dt_Ref_moveBeat_c4 19
theorem d_Ref_moveBeat_199 : decode (jm_cod M_Ref_moveBeat) 199 = .ok (.iand, 1) := dt_Ref_moveBeat_c4 20
theorem d_Ref_moveBeat_200 : decode (jm_cod M_Ref_moveBeat) 200 = .ok (.ifCond .ne 7, 3) := dt_Ref_moveBeat_c4 21
theorem d_Ref_moveBeat_203 : decode (jm_cod M_Ref_moveBeat) 203 = .ok (.iconst 1, 1) := dt_Ref_moveBeat_c4 22
theorem d_Ref_moveBeat_204 : decode (jm_cod M_Ref_moveBeat) 204 = .ok (.goto 4, 3) := dt_Ref_moveBeat_c4 23
def tab_Ref_moveBeat_c5 : List (Nat × Instr × Nat) := [(207, .iconst 0, 1), (208, .bastore, 1), (209, .aload_n 0, 1), (210, .getfield 151, 3), (213, .iload_n 1, 1), (214, .baload, 1), (215, .ifCond .eq 4, 3), (218, .return_, 1), (219, .iconst 0, 1), (220, .istore 7, 2), (222, .aload_n 0, 1), (223, .getfield 130, 3), (226, .iload 7, 2), (228, .iaload, 1), (229, .iload_n 1, 1), (230, .if_icmp .ne 18, 3), (233, .aload_n 0, 1), (234, .getfield 133, 3), (237, .iload 7, 2), (239, .iaload, 1), (240, .iload 6, 2), (242, .bipush 15, 2), (244, .iand, 1), (245, .if_icmp .eq 9, 3)]
theorem dt_Ref_moveBeat_c5 (i : Nat) : decode (jm_cod M_Ref_moveBeat) (tab_Ref_moveBeat_c5.getD i (207, .iconst 0, 1)).1 = .ok ((tab_Ref_moveBeat_c5.getD i (207, .iconst 0, 1)).2.1, (tab_Ref_moveBeat_c5.getD i (207, .iconst 0, 1)).2.2) := j_tab (by decide +kernel) i
theorem d_Ref_moveBeat_207 : decode (jm_cod M_Ref_moveBeat) 207 = .ok (.iconst 0, 1) := dt_Ref_moveBeat_c5 0
theorem d_Ref_moveBeat_208 : decode (jm_cod M_Ref_moveBeat) 208 = .ok (.bastore, 1) := dt_Ref_moveBeat_c5 1
theorem d_Ref_moveBeat_209 : decode (jm_cod M_Ref_moveBeat) 209 = .ok (.aload_n 0, 1) := dt_Ref_moveBeat_c5 2
theorem d_Ref_moveBeat_210 : decode (jm_cod M_Ref_moveBeat) 210 = .ok (.getfield 151, 3) := dt_Ref_moveBeat_c5 3
theorem d_Ref_moveBeat_213 : decode (jm_cod M_Ref_moveBeat) 213 = .ok (.iload_n 1, 1) := dt_Ref_moveBeat_c5 4
theorem d_Ref_moveBeat_214 : decode (jm_cod M_Ref_moveBeat) 214 = .ok (.baload, 1) := dt_Ref_moveBeat_c5 5
theorem d_Ref_moveBeat_215 : decode (jm_cod M_Ref_moveBeat) 215 = .ok (.ifCond .eq 4, 3) := dt_Ref_moveBeat_c5 6
theorem d_Ref_moveBeat_218 : decode (jm_cod M_Ref_moveBeat) 218 = .ok (.return_, 1) := dt_Ref_moveBeat_c5 7
theorem d_Ref_moveBeat_219 : decode (jm_cod M_Ref_moveBeat) 219 = .ok (.iconst 0, 1) := dt_Ref_moveBeat_c5 8
theorem d_Ref_moveBeat_220 : decode (jm_cod M_Ref_moveBeat) 220 = .ok (.istore 7, 2) := dt_Ref_moveBeat_c5 9
theorem d_Ref_moveBeat_222 : decode (jm_cod M_Ref_moveBeat) 222 = .ok (.aload_n 0, 1) := dt_Ref_moveBeat_c5 10
theorem d_Ref_moveBeat_223 : decode (jm_cod M_Ref_moveBeat) 223 = .ok (.getfield 130, 3) := dt_Ref_moveBeat_c5 11
theorem d_Ref_moveBeat_226 : decode (jm_cod M_Ref_moveBeat) 226 = .ok (.iload 7, 2) := dt_Ref_moveBeat_c5 12
theorem d_Ref_moveBeat_228 : decode (jm_cod M_Ref_moveBeat) 228 = .ok (.iaload, 1) := dt_Ref_moveBeat_c5 13
theorem d_Ref_moveBeat_229 : decode (jm_cod M_Ref_moveBeat) 229 = .ok (.iload_n 1, 1) := dt_Ref_moveBeat_c5 14
theorem d_Ref_moveBeat_230 : decode (jm_cod M_Ref_moveBeat) 230 = .ok (.if_icmp .ne 18, 3) := dt_Ref_moveBeat_c5 15
theorem d_Ref_moveBeat_233 : decode (jm_cod M_Ref_moveBeat) 233 = .ok (.aload_n 0, 1) := dt_Ref_moveBeat_c5 16
theorem d_Ref_moveBeat_234 : decode (jm_cod M_Ref_moveBeat) 234 = .ok (.getfield 133, 3) := dt_Ref_moveBeat_c5 17
theorem d_Ref_moveBeat_237 : decode (jm_cod M_Ref_moveBeat) 237 = .ok (.iload 7, 2) := dt_Ref_moveBeat_c5 18
theorem d_Ref_moveBeat_239 : decode (jm_cod M_Ref_moveBeat) 239 = .ok (.iaload, 1) := dt_Ref_moveBeat_c5 19
theorem d_Ref_moveBeat_240 : decode (jm_cod M_Ref_moveBeat) 240 = .ok (.iload 6, 2) := dt_Ref_moveBeat_c5 20
theorem d_Ref_moveBeat_242 : decode (jm_cod M_Ref_moveBeat) 242 = .ok (.bipush 15, 2) := dt_Ref_moveBeat_c5 21
theorem d_Ref_moveBeat_244 : decode (jm_cod M_Ref_moveBeat) 244 = .ok (.iand, 1) := dt_Ref_moveBeat_c5 22
theorem d_Ref_moveBeat_245 : decode (jm_cod M_Ref_moveBeat) 245 = .ok (.if_icmp .eq 9, 3) := dt_Ref_moveBeat_c5 23
def tab_Ref_moveBeat_c6 : List (Nat × Instr × Nat) := [(248, .iinc 7 1, 3), (251, .goto (-29), 3), (254, .aload_n 0, 1), (255, .dup, 1), (256, .getfield 529, 3), (259, .iconst 1, 1), (260, .isub, 1), (261, .putfield 529, 3), (264, .iload 7, 2), (266, .istore 8, 2), (268, .iload 8, 2), (270, .aload_n 0, 1), (271, .getfield 529, 3), (274, .if_icmp .ge 57, 3), (277, .aload_n 0, 1), (278, .getfield 130, 3), (281, .iload 8, 2), (283, .aload_n 0, 1), (284, .getfield 130, 3), (287, .iload 8, 2), (289, .iconst 1, 1), (290, .iadd, 1), (291, .iaload, 1), (292, .iastore, 1)]
theorem dt_Ref_moveBeat_c6 (i : Nat) : decode (jm_cod M_Ref_moveBeat) (tab_Ref_moveBeat_c6.getD i (248, .iinc 7 1, 3)).1 = .ok ((tab_Ref_moveBeat_c6.getD i (248, .iinc 7 1, 3)).2.1, (tab_Ref_moveBeat_c6.getD i (248, .iinc 7 1, 3)).2.2) := j_tab (by decide +kernel) i
theorem d_Ref_moveBeat_248 : decode (jm_cod M_Ref_moveBeat) 248 = .ok (.iinc 7 1, 3) := dt_Ref_moveBeat_c6 0
theorem d_Ref_moveBeat_251 : decode (jm_cod M_Ref_moveBeat) 251 = .ok (.goto (-29), 3) := dt_Ref_moveBeat_c6 1
theorem d_Ref_moveBeat_254 : decode (jm_cod M_Ref_moveBeat) 254 = .ok (.aload_n 0, 1) := dt_Ref_moveBeat_c6 2
theorem d_Ref_moveBeat_255 : decode (jm_cod M_Ref_moveBeat) 255 = .ok (.dup, 1) := dt_Ref_moveBeat_c6 3
theorem d_Ref_moveBeat_256 : decode (jm_cod M_Ref_moveBeat) 256 = .ok (.getfield 529, 3) := dt_Ref_moveBeat_c6 4
theorem d_Ref_moveBeat_259 : decode (jm_cod M_Ref_moveBeat) 259 = .ok (.iconst 1, 1) := dt_Ref_moveBeat_c6 5
theorem d_Ref_moveBeat_260 : decode (jm_cod M_Ref_moveBeat) 260 = .ok (.isub, 1) := dt_Ref_moveBeat_c6 6
theorem d_Ref_moveBeat_261 : decode (jm_cod M_Ref_moveBeat) 261 = .ok (.putfield 529, 3) := dt_Ref_moveBeat_c6 7
theorem d_Ref_moveBeat_264 : decode (jm_cod M_Ref_moveBeat) 264 = .ok (.iload 7, 2) := dt_Ref_moveBeat_c6 8
theorem d_Ref_moveBeat_266 : decode (jm_cod M_Ref_moveBeat) 266 = .ok (.istore 8, 2) := dt_Ref_moveBeat_c6 9
theorem d_Ref_moveBeat_268 : decode (jm_cod M_Ref_moveBeat) 268 = .ok (.iload 8, 2) := dt_Ref_moveBeat_c6 10
theorem d_Ref_moveBeat_270 : decode (jm_cod M_Ref_moveBeat) 270 = .ok (.aload_n 0, 1) := dt_Ref_moveBeat_c6 11
theorem d_Ref_moveBeat_271 : decode (jm_cod M_Ref_moveBeat) 271 = .ok (.getfield 529, 3) := dt_Ref_moveBeat_c6 12
theorem d_Ref_moveBeat_274 : decode (jm_cod M_Ref_moveBeat) 274 = .ok (.if_icmp .ge 57, 3) := dt_Ref_moveBeat_c6 13
theorem d_Ref_moveBeat_277 : decode (jm_cod M_Ref_moveBeat) 277 = .ok (.aload_n 0, 1) := dt_Ref_moveBeat_c6 14
theorem d_Ref_moveBeat_278 : decode (jm_cod M_Ref_moveBeat) 278 = .ok (.getfield 130, 3) := dt_Ref_moveBeat_c6 15
theorem d_Ref_moveBeat_281 : decode (jm_cod M_Ref_moveBeat) 281 = .ok (.iload 8, 2) := dt_Ref_moveBeat_c6 16
theorem d_Ref_moveBeat_283 : decode (jm_cod M_Ref_moveBeat) 283 = .ok (.aload_n 0, 1) := dt_Ref_moveBeat_c6 17
theorem d_Ref_moveBeat_284 : decode (jm_cod M_Ref_moveBeat) 284 = .ok (.getfield 130, 3) := dt_Ref_moveBeat_c6 18
theorem d_Ref_moveBeat_287 : decode (jm_cod M_Ref_moveBeat) 287 = .ok (.iload 8, 2) := dt_Ref_moveBeat_c6 19
theorem d_Ref_moveBeat_289 : decode (jm_cod M_Ref_moveBeat) 289 = .ok (.iconst 1, 1) := dt_Ref_moveBeat_c6 20
theorem d_Ref_moveBeat_290 : decode (jm_cod M_Ref_moveBeat) 290 = .ok (.iadd, 1) := dt_Ref_moveBeat_c6 21
theorem d_Ref_moveBeat_291 : decode (jm_cod M_Ref_moveBeat) 291 = .ok (.iaload, 1) := dt_Ref_moveBeat_c6 22
theorem d_Ref_moveBeat_292 : decode (jm_cod M_Ref_moveBeat) 292 = .ok (.iastore, 1) := dt_Ref_moveBeat_c6 23
def tab_Ref_moveBeat_c7 : List (Nat × Instr × Nat) := [(293, .aload_n 0, 1), (294, .getfield 133, 3), (297, .iload 8, 2), (299, .aload_n 0, 1), (300, .getfield 133, 3), (303, .iload 8, 2), (305, .iconst 1, 1), (306, .iadd, 1), (307, .iaload, 1), (308, .iastore, 1), (309, .aload_n 0, 1), (310, .getfield 136, 3), (313, .iload 8, 2), (315, .aload_n 0, 1), (316, .getfield 136, 3), (319, .iload 8, 2), (321, .iconst 1, 1), (322, .iadd, 1), (323, .iaload, 1), (324, .iastore, 1), (325, .iinc 8 1, 3), (328, .goto (-60), 3), (331, .return_, 1)]
theorem dt_Ref_moveBeat_c7 (i : Nat) : decode (jm_cod M_Ref_moveBeat) (tab_Ref_moveBeat_c7.getD i (293, .aload_n 0, 1)).1 = .ok ((tab_Ref_moveBeat_c7.getD i (293, .aload_n 0, 1)).2.1, (tab_Ref_moveBeat_c7.getD i (293, .aload_n 0, 1)).2.2) := j_tab (by decide +kernel) i
theorem d_Ref_moveBeat_293 : decode (jm_cod M_Ref_moveBeat) 293 = .ok (.aload_n 0, 1) := dt_Ref_moveBeat_c7 0
theorem d_Ref_moveBeat_294 : decode (jm_cod M_Ref_moveBeat) 294 = .ok (.getfield 133, 3) := dt_Ref_moveBeat_c7 1
theorem d_Ref_moveBeat_297 : decode (jm_cod M_Ref_moveBeat) 297 = .ok (.iload 8, 2) := dt_Ref_moveBeat_c7 2
theorem d_Ref_moveBeat_299 : decode (jm_cod M_Ref_moveBeat) 299 = .ok (.aload_n 0, 1) := dt_Ref_moveBeat_c7 3
theorem d_Ref_moveBeat_300 : decode (jm_cod M_Ref_moveBeat) 300 = .ok (.getfield 133, 3) := dt_Ref_moveBeat_c7 4
theorem d_Ref_moveBeat_303 : decode (jm_cod M_Ref_moveBeat) 303 = .ok (.iload 8, 2) := dt_Ref_moveBeat_c7 5
theorem d_Ref_moveBeat_305 : decode (jm_cod M_Ref_moveBeat) 305 = .ok (.iconst 1, 1) := dt_Ref_moveBeat_c7 6
theorem d_Ref_moveBeat_306 : decode (jm_cod M_Ref_moveBeat) 306 = .ok (.iadd, 1) := dt_Ref_moveBeat_c7 7
theorem d_Ref_moveBeat_307 : decode (jm_cod M_Ref_moveBeat) 307 = .ok (.iaload, 1) := dt_Ref_moveBeat_c7 8
theorem d_Ref_moveBeat_308 : decode (jm_cod M_Ref_moveBeat) 308 = .ok (.iastore, 1) := dt_Ref_moveBeat_c7 9
theorem d_Ref_moveBeat_309 : decode (jm_cod M_Ref_moveBeat) 309 = .ok (.aload_n 0, 1) := dt_Ref_moveBeat_c7 10
theorem d_Ref_moveBeat_310 : decode (jm_cod M_Ref_moveBeat) 310 = .ok (.getfield 136, 3) := dt_Ref_moveBeat_c7 11
theorem d_Ref_moveBeat_313 : decode (jm_cod M_Ref_moveBeat) 313 = .ok (.iload 8, 2) := dt_Ref_moveBeat_c7 12
theorem d_Ref_moveBeat_315 : decode (jm_cod M_Ref_moveBeat) 315 = .ok (.aload_n 0, 1) := dt_Ref_moveBeat_c7 13
theorem d_Ref_moveBeat_316 : decode (jm_cod M_Ref_moveBeat) 316 = .ok (.getfield 136, 3) := dt_Ref_moveBeat_c7 14
theorem d_Ref_moveBeat_319 : decode (jm_cod M_Ref_moveBeat) 319 = .ok (.iload 8, 2) := dt_Ref_moveBeat_c7 15
theorem d_Ref_moveBeat_321 : decode (jm_cod M_Ref_moveBeat) 321 = .ok (.iconst 1, 1) := dt_Ref_moveBeat_c7 16
theorem d_Ref_moveBeat_322 : decode (jm_cod M_Ref_moveBeat) 322 = .ok (.iadd, 1) := dt_Ref_moveBeat_c7 17
theorem d_Ref_moveBeat_323 : decode (jm_cod M_Ref_moveBeat) 323 = .ok (.iaload, 1) := dt_Ref_moveBeat_c7 18
theorem d_Ref_moveBeat_324 : decode (jm_cod M_Ref_moveBeat) 324 = .ok (.iastore, 1) := dt_Ref_moveBeat_c7 19
theorem d_Ref_moveBeat_325 : decode (jm_cod M_Ref_moveBeat) 325 = .ok (.iinc 8 1, 3) := dt_Ref_moveBeat_c7 20
theorem d_Ref_moveBeat_328 : decode (jm_cod M_Ref_moveBeat) 328 = .ok (.goto (-60), 3) := dt_Ref_moveBeat_c7 21
theorem d_Ref_moveBeat_331 : decode (jm_cod M_Ref_moveBeat) 331 = .ok (.return_, 1) := dt_Ref_moveBeat_c7 22
def tab_Ref_drain_c0 : List (Nat × Instr × Nat) := [(0, .aload_n 0, 1), (1, .iload_n 1, 1), (2, .i2l, 1), (3, .lconst 1, 1), (4, .ldc2_w 621, 3), (7, .invokestatic 599, 3), (10, .ifCond .eq 7, 3), (13, .iconst 0, 1), (14, .goto 4, 3), (17, .iconst 1, 1), (18, .putfield 303, 3), (21, .aload_n 0, 1), (22, .getfield 303, 3), (25, .ifCond .le 5, 3), (28, .iconst 0, 1), (29, .ireturn, 1), (30, .iconst 0, 1), (31, .istore_n 2, 1), (32, .iload_n 2, 1), (33, .iload_n 1, 1), (34, .if_icmp .ge 21, 3), (37, .aload_n 0, 1), (38, .invokevirtual 605, 3), (41, .ifCond .le 14, 3)]
theorem dt_Ref_drain_c0 (i : Nat) : decode (jm_cod M_Ref_drain) (tab_Ref_drain_c0.getD i (0, .aload_n 0, 1)).1 = .ok ((tab_Ref_drain_c0.getD i (0, .aload_n 0, 1)).2.1, (tab_Ref_drain_c0.getD i (0, .aload_n 0, 1)).2.2) := j_tab (by decide +kernel) i
theorem d_Ref_drain_0 : decode (jm_cod M_Ref_drain) 0 = .ok (.aload_n 0, 1) := dt_Ref_drain_c0 0
theorem d_Ref_drain_1 : decode (jm_cod M_Ref_drain) 1 = .ok (.iload_n 1, 1) := dt_Ref_drain_c0 1
theorem d_Ref_drain_2 : decode (jm_cod M_Ref_drain) 2 = .ok (.i2l, 1) := dt_Ref_drain_c0 2
theorem d_Ref_drain_3 : decode (jm_cod M_Ref_drain) 3 = .ok (.lconst 1, 1) := dt_Ref_drain_c0 3
theorem d_Ref_drain_4 : decode (jm_cod M_Ref_drain) 4 = .ok (.ldc2_w 621, 3) := dt_Ref_drain_c0 4
theorem d_Ref_drain_7 : decode (jm_cod M_Ref_drain) 7 = .ok (.invokestatic 599, 3) := dt_Ref_drain_c0 5
theorem d_Ref_drain_10 : decode (jm_cod M_Ref_drain) 10 = .ok (.ifCond .eq 7, 3) := dt_Ref_drain_c0 6
theorem d_Ref_drain_13 : decode (jm_cod M_Ref_drain) 13 = .ok (.iconst 0, 1) := dt_Ref_drain_c0 7
theorem d_Ref_drain_14 : decode (jm_cod M_Ref_drain) 14 = .ok (.goto 4, 3) := dt_Ref_drain_c0 8
theorem d_Ref_drain_17 : decode (jm_cod M_Ref_drain) 17 = .ok (.iconst 1, 1) := dt_Ref_drain_c0 9
theorem d_Ref_drain_18 : decode (jm_cod M_Ref_drain) 18 = .ok (.putfield 303, 3) := dt_Ref_drain_c0 10
theorem d_Ref_drain_21 : decode (jm_cod M_Ref_drain) 21 = .ok (.aload_n 0, 1) := dt_Ref_drain_c0 11
theorem d_Ref_drain_22 : decode (jm_cod M_Ref_drain) 22 = .ok (.getfield 303, 3) := dt_Ref_drain_c0 12
theorem d_Ref_drain_25 : decode (jm_cod M_Ref_drain) 25 = .ok (.ifCond .le 5, 3) := dt_Ref_drain_c0 13
theorem d_Ref_drain_28 : decode (jm_cod M_Ref_drain) 28 = .ok (.iconst 0, 1) := dt_Ref_drain_c0 14
theorem d_Ref_drain_29 : decode (jm_cod M_Ref_drain) 29 = .ok (.ireturn, 1) := dt_Ref_drain_c0 15
theorem d_Ref_drain_30 : decode (jm_cod M_Ref_drain) 30 = .ok (.iconst 0, 1) := dt_Ref_drain_c0 16
theorem d_Ref_drain_31 : decode (jm_cod M_Ref_drain) 31 = .ok (.istore_n 2, 1) := dt_Ref_drain_c0 17
theorem d_Ref_drain_32 : decode (jm_cod M_Ref_drain) 32 = .ok (.iload_n 2, 1) := dt_Ref_drain_c0 18
theorem d_Ref_drain_33 : decode (jm_cod M_Ref_drain) 33 = .ok (.iload_n 1, 1) := dt_Ref_drain_c0 19
theorem d_Ref_drain_34 : decode (jm_cod M_Ref_drain) 34 = .ok (.if_icmp .ge 21, 3) := dt_Ref_drain_c0 20
theorem d_Ref_drain_37 : decode (jm_cod M_Ref_drain) 37 = .ok (.aload_n 0, 1) := dt_Ref_drain_c0 21
theorem d_Ref_drain_38 : decode (jm_cod M_Ref_drain) 38 = .ok (.invokevirtual 605, 3) := dt_Ref_drain_c0 22
theorem d_Ref_drain_41 : decode (jm_cod M_Ref_drain) 41 = .ok (.ifCond .le 14, 3) := dt_Ref_drain_c0 23
def tab_Ref_drain_c1 : List (Nat × Instr × Nat) := [(44, .aload_n 0, 1), (45, .invokevirtual 618, 3), (48, .pop, 1), (49, .iinc 2 1, 3), (52, .goto (-20), 3), (55, .aload_n 0, 1), (56, .invokevirtual 605, 3), (59, .ifCond .le 7, 3), (62, .iconst (-1), 1), (63, .goto 4, 3), (66, .iload_n 2, 1), (67, .ireturn, 1)]
theorem dt_Ref_drain_c1 (i : Nat) : decode (jm_cod M_Ref_drain) (tab_Ref_drain_c1.getD i (44, .aload_n 0, 1)).1 = .ok ((tab_Ref_drain_c1.getD i (44, .aload_n 0, 1)).2.1, (tab_Ref_drain_c1.getD i (44, .aload_n 0, 1)).2.2) := j_tab (by decide +kernel) i
theorem d_Ref_drain_44 : decode (jm_cod M_Ref_drain) 44 = .ok (.aload_n 0, 1) := dt_Ref_drain_c1 0
theorem d_Ref_drain_45 : decode (jm_cod M_Ref_drain) 45 = .ok (.invokevirtual 618, 3) := dt_Ref_drain_c1 1
theorem d_Ref_drain_48 : decode (jm_cod M_Ref_drain) 48 = .ok (.pop, 1) := dt_Ref_drain_c1 2
theorem d_Ref_drain_49 : decode (jm_cod M_Ref_drain) 49 = .ok (.iinc 2 1, 3) := dt_Ref_drain_c1 3
theorem d_Ref_drain_52 : decode (jm_cod M_Ref_drain) 52 = .ok (.goto (-20), 3) := dt_Ref_drain_c1 4
theorem d_Ref_drain_55 : decode (jm_cod M_Ref_drain) 55 = .ok (.aload_n 0, 1) := dt_Ref_drain_c1 5
theorem d_Ref_drain_56 : decode (jm_cod M_Ref_drain) 56 = .ok (.invokevirtual 605, 3) := dt_Ref_drain_c1 6
theorem d_Ref_drain_59 : decode (jm_cod M_Ref_drain) 59 = .ok (.ifCond .le 7, 3) := dt_Ref_drain_c1 7
theorem d_Ref_drain_62 : decode (jm_cod M_Ref_drain) 62 = .ok (.iconst (-1), 1) := dt_Ref_drain_c1 8
theorem d_Ref_drain_63 : decode (jm_cod M_Ref_drain) 63 = .ok (.goto 4, 3) := dt_Ref_drain_c1 9
theorem d_Ref_drain_66 : decode (jm_cod M_Ref_drain) 66 = .ok (.iload_n 2, 1) := dt_Ref_drain_c1 10
theorem d_Ref_drain_67 : decode (jm_cod M_Ref_drain) 67 = .ok (.ireturn, 1) := dt_Ref_drain_c1 11
def tab_Ref_ticket_c0 : List (Nat × Instr × Nat) := [(0, .aload_n 0, 1), (1, .aload_n 0, 1), (2, .iload_n 1, 1), (3, .invokevirtual 623, 3), (6, .ifCond .ne 7, 3), (9, .iconst 1, 1), (10, .goto 20, 3), (13, .iload_n 2, 1), (14, .i2l, 1), (15, .lconst 0, 1), (16, .ldc2_w 626, 3), (19, .invokestatic 599, 3), (22, .ifCond .ne 7, 3), (25, .iconst 2, 1), (26, .goto 4, 3), (29, .iconst 0, 1), (30, .putfield 303, 3), (33, .aload_n 0, 1), (34, .getfield 303, 3), (37, .ifCond .le 5, 3), (40, .iconst 0, 1), (41, .ireturn, 1), (42, .iload_n 2, 1), (43, .tableswitch 102 0 5 #[37, 67, 74, 81, 88, 95], 37)]
theorem dt_Ref_ticket_c0 (i : Nat) : decode (jm_cod M_Ref_ticket) (tab_Ref_ticket_c0.getD i (0, .aload_n 0, 1)).1 = .ok ((tab_Ref_ticket_c0.getD i (0, .aload_n 0, 1)).2.1, (tab_Ref_ticket_c0.getD i (0, .aload_n 0, 1)).2.2) := j_tab (by decide +kernel) i
theorem d_Ref_ticket_0 : decode (jm_cod M_Ref_ticket) 0 = .ok (.aload_n 0, 1) := dt_Ref_ticket_c0 0
theorem d_Ref_ticket_1 : decode (jm_cod M_Ref_ticket) 1 = .ok (.aload_n 0, 1) := dt_Ref_ticket_c0 1
theorem d_Ref_ticket_2 : decode (jm_cod M_Ref_ticket) 2 = .ok (.iload_n 1, 1) := dt_Ref_ticket_c0 2
theorem d_Ref_ticket_3 : decode (jm_cod M_Ref_ticket) 3 = .ok (.invokevirtual 623, 3) := dt_Ref_ticket_c0 3
theorem d_Ref_ticket_6 : decode (jm_cod M_Ref_ticket) 6 = .ok (.ifCond .ne 7, 3) := dt_Ref_ticket_c0 4
theorem d_Ref_ticket_9 : decode (jm_cod M_Ref_ticket) 9 = .ok (.iconst 1, 1) := dt_Ref_ticket_c0 5
theorem d_Ref_ticket_10 : decode (jm_cod M_Ref_ticket) 10 = .ok (.goto 20, 3) := dt_Ref_ticket_c0 6
theorem d_Ref_ticket_13 : decode (jm_cod M_Ref_ticket) 13 = .ok (.iload_n 2, 1) := dt_Ref_ticket_c0 7
theorem d_Ref_ticket_14 : decode (jm_cod M_Ref_ticket) 14 = .ok (.i2l, 1) := dt_Ref_ticket_c0 8
theorem d_Ref_ticket_15 : decode (jm_cod M_Ref_ticket) 15 = .ok (.lconst 0, 1) := dt_Ref_ticket_c0 9
theorem d_Ref_ticket_16 : decode (jm_cod M_Ref_ticket) 16 = .ok (.ldc2_w 626, 3) := dt_Ref_ticket_c0 10
theorem d_Ref_ticket_19 : decode (jm_cod M_Ref_ticket) 19 = .ok (.invokestatic 599, 3) := dt_Ref_ticket_c0 11
theorem d_Ref_ticket_22 : decode (jm_cod M_Ref_ticket) 22 = .ok (.ifCond .ne 7, 3) := dt_Ref_ticket_c0 12
theorem d_Ref_ticket_25 : decode (jm_cod M_Ref_ticket) 25 = .ok (.iconst 2, 1) := dt_Ref_ticket_c0 13
theorem d_Ref_ticket_26 : decode (jm_cod M_Ref_ticket) 26 = .ok (.goto 4, 3) := dt_Ref_ticket_c0 14
theorem d_Ref_ticket_29 : decode (jm_cod M_Ref_ticket) 29 = .ok (.iconst 0, 1) := dt_Ref_ticket_c0 15
theorem d_Ref_ticket_30 : decode (jm_cod M_Ref_ticket) 30 = .ok (.putfield 303, 3) := dt_Ref_ticket_c0 16
theorem d_Ref_ticket_33 : decode (jm_cod M_Ref_ticket) 33 = .ok (.aload_n 0, 1) := dt_Ref_ticket_c0 17
theorem d_Ref_ticket_34 : decode (jm_cod M_Ref_ticket) 34 = .ok (.getfield 303, 3) := dt_Ref_ticket_c0 18
theorem d_Ref_ticket_37 : decode (jm_cod M_Ref_ticket) 37 = .ok (.ifCond .le 5, 3) := dt_Ref_ticket_c0 19
theorem d_Ref_ticket_40 : decode (jm_cod M_Ref_ticket) 40 = .ok (.iconst 0, 1) := dt_Ref_ticket_c0 20
theorem d_Ref_ticket_41 : decode (jm_cod M_Ref_ticket) 41 = .ok (.ireturn, 1) := dt_Ref_ticket_c0 21
theorem d_Ref_ticket_42 : decode (jm_cod M_Ref_ticket) 42 = .ok (.iload_n 2, 1) := dt_Ref_ticket_c0 22
theorem d_Ref_ticket_43 : decode (jm_cod M_Ref_ticket) 43 = .ok (.tableswitch 102 0 5 #[37, 67, 74, 81, 88, 95], 37) := dt_Ref_ticket_c0 23
def tab_Ref_ticket_c1 : List (Nat × Instr × Nat) := [(80, .aload_n 0, 1), (81, .getfield 76, 3), (84, .iload_n 1, 1), (85, .iaload, 1), (86, .iconst (-1), 1), (87, .if_icmp .eq 7, 3), (90, .iconst 2, 1), (91, .goto 18, 3), (94, .aload_n 0, 1), (95, .getfield 73, 3), (98, .iload_n 1, 1), (99, .iaload, 1), (100, .iconst (-1), 1), (101, .if_icmp .eq 7, 3), (104, .iconst 1, 1), (105, .goto 4, 3), (108, .iconst 0, 1), (109, .ireturn, 1), (110, .aload_n 0, 1), (111, .getfield 82, 3), (114, .iload_n 1, 1), (115, .iaload, 1), (116, .ireturn, 1), (117, .aload_n 0, 1)]
theorem dt_Ref_ticket_c1 (i : Nat) : decode (jm_cod M_Ref_ticket) (tab_Ref_ticket_c1.getD i (80, .aload_n 0, 1)).1 = .ok ((tab_Ref_ticket_c1.getD i (80, .aload_n 0, 1)).2.1, (tab_Ref_ticket_c1.getD i (80, .aload_n 0, 1)).2.2) := j_tab (by decide +kernel) i
theorem d_Ref_ticket_80 : decode (jm_cod M_Ref_ticket) 80 = .ok (.aload_n 0, 1) := dt_Ref_ticket_c1 0
theorem d_Ref_ticket_81 : decode (jm_cod M_Ref_ticket) 81 = .ok (.getfield 76, 3) := dt_Ref_ticket_c1 1
theorem d_Ref_ticket_84 : decode (jm_cod M_Ref_ticket) 84 = .ok (.iload_n 1, 1) := dt_Ref_ticket_c1 2
theorem d_Ref_ticket_85 : decode (jm_cod M_Ref_ticket) 85 = .ok (.iaload, 1) := dt_Ref_ticket_c1 3
theorem d_Ref_ticket_86 : decode (jm_cod M_Ref_ticket) 86 = .ok (.iconst (-1), 1) := dt_Ref_ticket_c1 4
theorem d_Ref_ticket_87 : decode (jm_cod M_Ref_ticket) 87 = .ok (.if_icmp .eq 7, 3) := dt_Ref_ticket_c1 5
theorem d_Ref_ticket_90 : decode (jm_cod M_Ref_ticket) 90 = .ok (.iconst 2, 1) := dt_Ref_ticket_c1 6
theorem d_Ref_ticket_91 : decode (jm_cod M_Ref_ticket) 91 = .ok (.goto 18, 3) := dt_Ref_ticket_c1 7
theorem d_Ref_ticket_94 : decode (jm_cod M_Ref_ticket) 94 = .ok (.aload_n 0, 1) := dt_Ref_ticket_c1 8
theorem d_Ref_ticket_95 : decode (jm_cod M_Ref_ticket) 95 = .ok (.getfield 73, 3) := dt_Ref_ticket_c1 9
theorem d_Ref_ticket_98 : decode (jm_cod M_Ref_ticket) 98 = .ok (.iload_n 1, 1) := dt_Ref_ticket_c1 10
theorem d_Ref_ticket_99 : decode (jm_cod M_Ref_ticket) 99 = .ok (.iaload, 1) := dt_Ref_ticket_c1 11
theorem d_Ref_ticket_100 : decode (jm_cod M_Ref_ticket) 100 = .ok (.iconst (-1), 1) := dt_Ref_ticket_c1 12
theorem d_Ref_ticket_101 : decode (jm_cod M_Ref_ticket) 101 = .ok (.if_icmp .eq 7, 3) := dt_Ref_ticket_c1 13
theorem d_Ref_ticket_104 : decode (jm_cod M_Ref_ticket) 104 = .ok (.iconst 1, 1) := dt_Ref_ticket_c1 14
theorem d_Ref_ticket_105 : decode (jm_cod M_Ref_ticket) 105 = .ok (.goto 4, 3) := dt_Ref_ticket_c1 15
theorem d_Ref_ticket_108 : decode (jm_cod M_Ref_ticket) 108 = .ok (.iconst 0, 1) := dt_Ref_ticket_c1 16
theorem d_Ref_ticket_109 : decode (jm_cod M_Ref_ticket) 109 = .ok (.ireturn, 1) := dt_Ref_ticket_c1 17
theorem d_Ref_ticket_110 : decode (jm_cod M_Ref_ticket) 110 = .ok (.aload_n 0, 1) := dt_Ref_ticket_c1 18
theorem d_Ref_ticket_111 : decode (jm_cod M_Ref_ticket) 111 = .ok (.getfield 82, 3) := dt_Ref_ticket_c1 19
theorem d_Ref_ticket_114 : decode (jm_cod M_Ref_ticket) 114 = .ok (.iload_n 1, 1) := dt_Ref_ticket_c1 20
theorem d_Ref_ticket_115 : decode (jm_cod M_Ref_ticket) 115 = .ok (.iaload, 1) := dt_Ref_ticket_c1 21
theorem d_Ref_ticket_116 : decode (jm_cod M_Ref_ticket) 116 = .ok (.ireturn, 1) := dt_Ref_ticket_c1 22
theorem d_Ref_ticket_117 : decode (jm_cod M_Ref_ticket) 117 = .ok (.aload_n 0, 1) := dt_Ref_ticket_c1 23
def tab_Ref_ticket_c2 : List (Nat × Instr × Nat) := [(118, .getfield 70, 3), (121, .iload_n 1, 1), (122, .iaload, 1), (123, .ireturn, 1), (124, .aload_n 0, 1), (125, .getfield 73, 3), (128, .iload_n 1, 1), (129, .iaload, 1), (130, .ireturn, 1), (131, .aload_n 0, 1), (132, .getfield 76, 3), (135, .iload_n 1, 1), (136, .iaload, 1), (137, .ireturn, 1), (138, .aload_n 0, 1), (139, .getfield 79, 3), (142, .iload_n 1, 1), (143, .iaload, 1), (144, .ireturn, 1), (145, .aload_n 0, 1), (146, .aload_n 0, 1), (147, .getfield 60, 3), (150, .iload_n 1, 1), (151, .iaload, 1)]
theorem dt_Ref_ticket_c2 (i : Nat) : decode (jm_cod M_Ref_ticket) (tab_Ref_ticket_c2.getD i (118, .getfield 70, 3)).1 = .ok ((tab_Ref_ticket_c2.getD i (118, .getfield 70, 3)).2.1, (tab_Ref_ticket_c2.getD i (118, .getfield 70, 3)).2.2) := j_tab (by decide +kernel) i
theorem d_Ref_ticket_118 : decode (jm_cod M_Ref_ticket) 118 = .ok (.getfield 70, 3) := dt_Ref_ticket_c2 0
theorem d_Ref_ticket_121 : decode (jm_cod M_Ref_ticket) 121 = .ok (.iload_n 1, 1) := dt_Ref_ticket_c2 1
theorem d_Ref_ticket_122 : decode (jm_cod M_Ref_ticket) 122 = .ok (.iaload, 1) := dt_Ref_ticket_c2 2
theorem d_Ref_ticket_123 : decode (jm_cod M_Ref_ticket) 123 = .ok (.ireturn, 1) := dt_Ref_ticket_c2 3
theorem d_Ref_ticket_124 : decode (jm_cod M_Ref_ticket) 124 = .ok (.aload_n 0, 1) := dt_Ref_ticket_c2 4
theorem d_Ref_ticket_125 : decode (jm_cod M_Ref_ticket) 125 = .ok (.getfield 73, 3) := dt_Ref_ticket_c2 5
theorem d_Ref_ticket_128 : decode (jm_cod M_Ref_ticket) 128 = .ok (.iload_n 1, 1) := dt_Ref_ticket_c2 6
theorem d_Ref_ticket_129 : decode (jm_cod M_Ref_ticket) 129 = .ok (.iaload, 1) := dt_Ref_ticket_c2 7
theorem d_Ref_ticket_130 : decode (jm_cod M_Ref_ticket) 130 = .ok (.ireturn, 1) := dt_Ref_ticket_c2 8
theorem d_Ref_ticket_131 : decode (jm_cod M_Ref_ticket) 131 = .ok (.aload_n 0, 1) := dt_Ref_ticket_c2 9
theorem d_Ref_ticket_132 : decode (jm_cod M_Ref_ticket) 132 = .ok (.getfield 76, 3) := dt_Ref_ticket_c2 10
theorem d_Ref_ticket_135 : decode (jm_cod M_Ref_ticket) 135 = .ok (.iload_n 1, 1) := dt_Ref_ticket_c2 11
theorem d_Ref_ticket_136 : decode (jm_cod M_Ref_ticket) 136 = .ok (.iaload, 1) := dt_Ref_ticket_c2 12
theorem d_Ref_ticket_137 : decode (jm_cod M_Ref_ticket) 137 = .ok (.ireturn, 1) := dt_Ref_ticket_c2 13
theorem d_Ref_ticket_138 : decode (jm_cod M_Ref_ticket) 138 = .ok (.aload_n 0, 1) := dt_Ref_ticket_c2 14
theorem d_Ref_ticket_139 : decode (jm_cod M_Ref_ticket) 139 = .ok (.getfield 79, 3) := dt_Ref_ticket_c2 15
theorem d_Ref_ticket_142 : decode (jm_cod M_Ref_ticket) 142 = .ok (.iload_n 1, 1) := dt_Ref_ticket_c2 16
theorem d_Ref_ticket_143 : decode (jm_cod M_Ref_ticket) 143 = .ok (.iaload, 1) := dt_Ref_ticket_c2 17
theorem d_Ref_ticket_144 : decode (jm_cod M_Ref_ticket) 144 = .ok (.ireturn, 1) := dt_Ref_ticket_c2 18
theorem d_Ref_ticket_145 : decode (jm_cod M_Ref_ticket) 145 = .ok (.aload_n 0, 1) := dt_Ref_ticket_c2 19
theorem d_Ref_ticket_146 : decode (jm_cod M_Ref_ticket) 146 = .ok (.aload_n 0, 1) := dt_Ref_ticket_c2 20
theorem d_Ref_ticket_147 : decode (jm_cod M_Ref_ticket) 147 = .ok (.getfield 60, 3) := dt_Ref_ticket_c2 21
theorem d_Ref_ticket_150 : decode (jm_cod M_Ref_ticket) 150 = .ok (.iload_n 1, 1) := dt_Ref_ticket_c2 22
theorem d_Ref_ticket_151 : decode (jm_cod M_Ref_ticket) 151 = .ok (.iaload, 1) := dt_Ref_ticket_c2 23
def tab_Ref_ticket_c3 : List (Nat × Instr × Nat) := [(152, .invokevirtual 523, 3), (155, .ireturn, 1)]
theorem dt_Ref_ticket_c3 (i : Nat) : decode (jm_cod M_Ref_ticket) (tab_Ref_ticket_c3.getD i (152, .invokevirtual 523, 3)).1 = .ok ((tab_Ref_ticket_c3.getD i (152, .invokevirtual 523, 3)).2.1, (tab_Ref_ticket_c3.getD i (152, .invokevirtual 523, 3)).2.2) := j_tab (by decide +kernel) i
theorem d_Ref_ticket_152 : decode (jm_cod M_Ref_ticket) 152 = .ok (.invokevirtual 523, 3) := dt_Ref_ticket_c3 0
theorem d_Ref_ticket_155 : decode (jm_cod M_Ref_ticket) 155 = .ok (.ireturn, 1) := dt_Ref_ticket_c3 1
def tab_Ref_isTicket_c0 : List (Nat × Instr × Nat) := [(0, .iload_n 1, 1), (1, .i2l, 1), (2, .lconst 0, 1), (3, .aload_n 0, 1), (4, .getfield 337, 3), (7, .i2l, 1), (8, .lconst 1, 1), (9, .lsub, 1), (10, .invokestatic 599, 3), (13, .ireturn, 1)]
theorem dt_Ref_isTicket_c0 (i : Nat) : decode (jm_cod M_Ref_isTicket) (tab_Ref_isTicket_c0.getD i (0, .iload_n 1, 1)).1 = .ok ((tab_Ref_isTicket_c0.getD i (0, .iload_n 1, 1)).2.1, (tab_Ref_isTicket_c0.getD i (0, .iload_n 1, 1)).2.2) := j_tab (by decide +kernel) i
theorem d_Ref_isTicket_0 : decode (jm_cod M_Ref_isTicket) 0 = .ok (.iload_n 1, 1) := dt_Ref_isTicket_c0 0
theorem d_Ref_isTicket_1 : decode (jm_cod M_Ref_isTicket) 1 = .ok (.i2l, 1) := dt_Ref_isTicket_c0 1
theorem d_Ref_isTicket_2 : decode (jm_cod M_Ref_isTicket) 2 = .ok (.lconst 0, 1) := dt_Ref_isTicket_c0 2
theorem d_Ref_isTicket_3 : decode (jm_cod M_Ref_isTicket) 3 = .ok (.aload_n 0, 1) := dt_Ref_isTicket_c0 3
theorem d_Ref_isTicket_4 : decode (jm_cod M_Ref_isTicket) 4 = .ok (.getfield 337, 3) := dt_Ref_isTicket_c0 4
theorem d_Ref_isTicket_7 : decode (jm_cod M_Ref_isTicket) 7 = .ok (.i2l, 1) := dt_Ref_isTicket_c0 5
theorem d_Ref_isTicket_8 : decode (jm_cod M_Ref_isTicket) 8 = .ok (.lconst 1, 1) := dt_Ref_isTicket_c0 6
theorem d_Ref_isTicket_9 : decode (jm_cod M_Ref_isTicket) 9 = .ok (.lsub, 1) := dt_Ref_isTicket_c0 7
theorem d_Ref_isTicket_10 : decode (jm_cod M_Ref_isTicket) 10 = .ok (.invokestatic 599, 3) := dt_Ref_isTicket_c0 8
theorem d_Ref_isTicket_13 : decode (jm_cod M_Ref_isTicket) 13 = .ok (.ireturn, 1) := dt_Ref_isTicket_c0 9
def tab_Ref_data_c0 : List (Nat × Instr × Nat) := [(0, .aload_n 0, 1), (1, .aload_n 0, 1), (2, .iload_n 1, 1), (3, .invokevirtual 623, 3), (6, .ifCond .eq 25, 3), (9, .iload_n 2, 1), (10, .i2l, 1), (11, .lconst 0, 1), (12, .aload_n 0, 1), (13, .getfield 79, 3), (16, .iload_n 1, 1), (17, .iaload, 1), (18, .i2l, 1), (19, .lconst 1, 1), (20, .lsub, 1), (21, .invokestatic 599, 3), (24, .ifCond .eq 7, 3), (27, .iconst 0, 1), (28, .goto 4, 3), (31, .iconst 1, 1), (32, .putfield 303, 3), (35, .aload_n 0, 1), (36, .getfield 303, 3), (39, .ifCond .le 7, 3)]
theorem dt_Ref_data_c0 (i : Nat) : decode (jm_cod M_Ref_data) (tab_Ref_data_c0.getD i (0, .aload_n 0, 1)).1 = .ok ((tab_Ref_data_c0.getD i (0, .aload_n 0, 1)).2.1, (tab_Ref_data_c0.getD i (0, .aload_n 0, 1)).2.2) := j_tab (by decide +kernel) i
theorem d_Ref_data_0 : decode (jm_cod M_Ref_data) 0 = .ok (.aload_n 0, 1) := dt_Ref_data_c0 0
theorem d_Ref_data_1 : decode (jm_cod M_Ref_data) 1 = .ok (.aload_n 0, 1) := dt_Ref_data_c0 1
theorem d_Ref_data_2 : decode (jm_cod M_Ref_data) 2 = .ok (.iload_n 1, 1) := dt_Ref_data_c0 2
theorem d_Ref_data_3 : decode (jm_cod M_Ref_data) 3 = .ok (.invokevirtual 623, 3) := dt_Ref_data_c0 3
theorem d_Ref_data_6 : decode (jm_cod M_Ref_data) 6 = .ok (.ifCond .eq 25, 3) := dt_Ref_data_c0 4
theorem d_Ref_data_9 : decode (jm_cod M_Ref_data) 9 = .ok (.iload_n 2, 1) := dt_Ref_data_c0 5
theorem d_Ref_data_10 : decode (jm_cod M_Ref_data) 10 = .ok (.i2l, 1) := dt_Ref_data_c0 6
theorem d_Ref_data_11 : decode (jm_cod M_Ref_data) 11 = .ok (.lconst 0, 1) := dt_Ref_data_c0 7
theorem d_Ref_data_12 : decode (jm_cod M_Ref_data) 12 = .ok (.aload_n 0, 1) := dt_Ref_data_c0 8
theorem d_Ref_data_13 : decode (jm_cod M_Ref_data) 13 = .ok (.getfield 79, 3) := dt_Ref_data_c0 9
theorem d_Ref_data_16 : decode (jm_cod M_Ref_data) 16 = .ok (.iload_n 1, 1) := dt_Ref_data_c0 10
theorem d_Ref_data_17 : decode (jm_cod M_Ref_data) 17 = .ok (.iaload, 1) := dt_Ref_data_c0 11
theorem d_Ref_data_18 : decode (jm_cod M_Ref_data) 18 = .ok (.i2l, 1) := dt_Ref_data_c0 12
theorem d_Ref_data_19 : decode (jm_cod M_Ref_data) 19 = .ok (.lconst 1, 1) := dt_Ref_data_c0 13
theorem d_Ref_data_20 : decode (jm_cod M_Ref_data) 20 = .ok (.lsub, 1) := dt_Ref_data_c0 14
theorem d_Ref_data_21 : decode (jm_cod M_Ref_data) 21 = .ok (.invokestatic 599, 3) := dt_Ref_data_c0 15
theorem d_Ref_data_24 : decode (jm_cod M_Ref_data) 24 = .ok (.ifCond .eq 7, 3) := dt_Ref_data_c0 16
theorem d_Ref_data_27 : decode (jm_cod M_Ref_data) 27 = .ok (.iconst 0, 1) := dt_Ref_data_c0 17
theorem d_Ref_data_28 : decode (jm_cod M_Ref_data) 28 = .ok (.goto 4, 3) := dt_Ref_data_c0 18
theorem d_Ref_data_31 : decode (jm_cod M_Ref_data) 31 = .ok (.iconst 1, 1) := dt_Ref_data_c0 19
theorem d_Ref_data_32 : decode (jm_cod M_Ref_data) 32 = .ok (.putfield 303, 3) := dt_Ref_data_c0 20
theorem d_Ref_data_35 : decode (jm_cod M_Ref_data) 35 = .ok (.aload_n 0, 1) := dt_Ref_data_c0 21
theorem d_Ref_data_36 : decode (jm_cod M_Ref_data) 36 = .ok (.getfield 303, 3) := dt_Ref_data_c0 22
theorem d_Ref_data_39 : decode (jm_cod M_Ref_data) 39 = .ok (.ifCond .le 7, 3) := dt_Ref_data_c0 23
def tab_Ref_data_c1 : List (Nat × Instr × Nat) := [(42, .lconst 0, 1), (43, .goto 14, 3), (46, .aload_n 0, 1), (47, .getfield 85, 3), (50, .bipush 16, 2), (52, .iload_n 1, 1), (53, .imul, 1), (54, .iload_n 2, 1), (55, .iadd, 1), (56, .laload, 1), (57, .lreturn, 1)]
theorem dt_Ref_data_c1 (i : Nat) : decode (jm_cod M_Ref_data) (tab_Ref_data_c1.getD i (42, .lconst 0, 1)).1 = .ok ((tab_Ref_data_c1.getD i (42, .lconst 0, 1)).2.1, (tab_Ref_data_c1.getD i (42, .lconst 0, 1)).2.2) := j_tab (by decide +kernel) i
theorem d_Ref_data_42 : decode (jm_cod M_Ref_data) 42 = .ok (.lconst 0, 1) := dt_Ref_data_c1 0
theorem d_Ref_data_43 : decode (jm_cod M_Ref_data) 43 = .ok (.goto 14, 3) := dt_Ref_data_c1 1
theorem d_Ref_data_46 : decode (jm_cod M_Ref_data) 46 = .ok (.aload_n 0, 1) := dt_Ref_data_c1 2
theorem d_Ref_data_47 : decode (jm_cod M_Ref_data) 47 = .ok (.getfield 85, 3) := dt_Ref_data_c1 3
theorem d_Ref_data_50 : decode (jm_cod M_Ref_data) 50 = .ok (.bipush 16, 2) := dt_Ref_data_c1 4
theorem d_Ref_data_52 : decode (jm_cod M_Ref_data) 52 = .ok (.iload_n 1, 1) := dt_Ref_data_c1 5
theorem d_Ref_data_53 : decode (jm_cod M_Ref_data) 53 = .ok (.imul, 1) := dt_Ref_data_c1 6
theorem d_Ref_data_54 : decode (jm_cod M_Ref_data) 54 = .ok (.iload_n 2, 1) := dt_Ref_data_c1 7
theorem d_Ref_data_55 : decode (jm_cod M_Ref_data) 55 = .ok (.iadd, 1) := dt_Ref_data_c1 8
theorem d_Ref_data_56 : decode (jm_cod M_Ref_data) 56 = .ok (.laload, 1) := dt_Ref_data_c1 9
theorem d_Ref_data_57 : decode (jm_cod M_Ref_data) 57 = .ok (.lreturn, 1) := dt_Ref_data_c1 10
def tab_Ref_forget_c0 : List (Nat × Instr × Nat) := [(0, .aload_n 0, 1), (1, .aload_n 0, 1), (2, .invokevirtual 605, 3), (5, .ifCond .le 7, 3), (8, .iconst 1, 1), (9, .goto 4, 3), (12, .iconst 0, 1), (13, .putfield 303, 3), (16, .aload_n 0, 1), (17, .getfield 303, 3), (20, .ifCond .le 5, 3), (23, .iconst 0, 1), (24, .ireturn, 1), (25, .aload_n 0, 1), (26, .getfield 337, 3), (29, .istore_n 1, 1), (30, .aload_n 0, 1), (31, .iconst 0, 1), (32, .putfield 337, 3), (35, .iload_n 1, 1), (36, .ireturn, 1)]
theorem dt_Ref_forget_c0 (i : Nat) : decode (jm_cod M_Ref_forget) (tab_Ref_forget_c0.getD i (0, .aload_n 0, 1)).1 = .ok ((tab_Ref_forget_c0.getD i (0, .aload_n 0, 1)).2.1, (tab_Ref_forget_c0.getD i (0, .aload_n 0, 1)).2.2) := j_tab (by decide +kernel) i
theorem d_Ref_forget_0 : decode (jm_cod M_Ref_forget) 0 = .ok (.aload_n 0, 1) := dt_Ref_forget_c0 0
theorem d_Ref_forget_1 : decode (jm_cod M_Ref_forget) 1 = .ok (.aload_n 0, 1) := dt_Ref_forget_c0 1
theorem d_Ref_forget_2 : decode (jm_cod M_Ref_forget) 2 = .ok (.invokevirtual 605, 3) := dt_Ref_forget_c0 2
theorem d_Ref_forget_5 : decode (jm_cod M_Ref_forget) 5 = .ok (.ifCond .le 7, 3) := dt_Ref_forget_c0 3
theorem d_Ref_forget_8 : decode (jm_cod M_Ref_forget) 8 = .ok (.iconst 1, 1) := dt_Ref_forget_c0 4
theorem d_Ref_forget_9 : decode (jm_cod M_Ref_forget) 9 = .ok (.goto 4, 3) := dt_Ref_forget_c0 5
theorem d_Ref_forget_12 : decode (jm_cod M_Ref_forget) 12 = .ok (.iconst 0, 1) := dt_Ref_forget_c0 6
theorem d_Ref_forget_13 : decode (jm_cod M_Ref_forget) 13 = .ok (.putfield 303, 3) := dt_Ref_forget_c0 7
theorem d_Ref_forget_16 : decode (jm_cod M_Ref_forget) 16 = .ok (.aload_n 0, 1) := dt_Ref_forget_c0 8
theorem d_Ref_forget_17 : decode (jm_cod M_Ref_forget) 17 = .ok (.getfield 303, 3) := dt_Ref_forget_c0 9
theorem d_Ref_forget_20 : decode (jm_cod M_Ref_forget) 20 = .ok (.ifCond .le 5, 3) := dt_Ref_forget_c0 10
theorem d_Ref_forget_23 : decode (jm_cod M_Ref_forget) 23 = .ok (.iconst 0, 1) := dt_Ref_forget_c0 11
theorem d_Ref_forget_24 : decode (jm_cod M_Ref_forget) 24 = .ok (.ireturn, 1) := dt_Ref_forget_c0 12
theorem d_Ref_forget_25 : decode (jm_cod M_Ref_forget) 25 = .ok (.aload_n 0, 1) := dt_Ref_forget_c0 13
theorem d_Ref_forget_26 : decode (jm_cod M_Ref_forget) 26 = .ok (.getfield 337, 3) := dt_Ref_forget_c0 14
theorem d_Ref_forget_29 : decode (jm_cod M_Ref_forget) 29 = .ok (.istore_n 1, 1) := dt_Ref_forget_c0 15
theorem d_Ref_forget_30 : decode (jm_cod M_Ref_forget) 30 = .ok (.aload_n 0, 1) := dt_Ref_forget_c0 16
theorem d_Ref_forget_31 : decode (jm_cod M_Ref_forget) 31 = .ok (.iconst 0, 1) := dt_Ref_forget_c0 17
theorem d_Ref_forget_32 : decode (jm_cod M_Ref_forget) 32 = .ok (.putfield 337, 3) := dt_Ref_forget_c0 18
theorem d_Ref_forget_35 : decode (jm_cod M_Ref_forget) 35 = .ok (.iload_n 1, 1) := dt_Ref_forget_c0 19
theorem d_Ref_forget_36 : decode (jm_cod M_Ref_forget) 36 = .ok (.ireturn, 1) := dt_Ref_forget_c0 20
def tab_Ref_wire_c0 : List (Nat × Instr × Nat) := [(0, .aload_n 0, 1), (1, .aload_n 0, 1), (2, .iload_n 1, 1), (3, .iload_n 2, 1), (4, .invokevirtual 628, 3), (7, .ifCond .eq 15, 3), (10, .iload_n 3, 1), (11, .i2l, 1), (12, .lconst 0, 1), (13, .ldc2_w 609, 3), (16, .invokestatic 599, 3), (19, .ifCond .ne 7, 3), (22, .iconst 1, 1), (23, .goto 21, 3), (26, .iload 4, 2), (28, .i2l, 1), (29, .lconst 0, 1), (30, .ldc2_w 612, 3), (33, .invokestatic 599, 3), (36, .ifCond .ne 7, 3), (39, .iconst 2, 1), (40, .goto 4, 3), (43, .iconst 0, 1), (44, .putfield 303, 3)]
theorem dt_Ref_wire_c0 (i : Nat) : decode (jm_cod M_Ref_wire) (tab_Ref_wire_c0.getD i (0, .aload_n 0, 1)).1 = .ok ((tab_Ref_wire_c0.getD i (0, .aload_n 0, 1)).2.1, (tab_Ref_wire_c0.getD i (0, .aload_n 0, 1)).2.2) := j_tab (by decide +kernel) i
theorem d_Ref_wire_0 : decode (jm_cod M_Ref_wire) 0 = .ok (.aload_n 0, 1) := dt_Ref_wire_c0 0
theorem d_Ref_wire_1 : decode (jm_cod M_Ref_wire) 1 = .ok (.aload_n 0, 1) := dt_Ref_wire_c0 1
theorem d_Ref_wire_2 : decode (jm_cod M_Ref_wire) 2 = .ok (.iload_n 1, 1) := dt_Ref_wire_c0 2
theorem d_Ref_wire_3 : decode (jm_cod M_Ref_wire) 3 = .ok (.iload_n 2, 1) := dt_Ref_wire_c0 3
theorem d_Ref_wire_4 : decode (jm_cod M_Ref_wire) 4 = .ok (.invokevirtual 628, 3) := dt_Ref_wire_c0 4
theorem d_Ref_wire_7 : decode (jm_cod M_Ref_wire) 7 = .ok (.ifCond .eq 15, 3) := dt_Ref_wire_c0 5
theorem d_Ref_wire_10 : decode (jm_cod M_Ref_wire) 10 = .ok (.iload_n 3, 1) := dt_Ref_wire_c0 6
theorem d_Ref_wire_11 : decode (jm_cod M_Ref_wire) 11 = .ok (.i2l, 1) := dt_Ref_wire_c0 7
theorem d_Ref_wire_12 : decode (jm_cod M_Ref_wire) 12 = .ok (.lconst 0, 1) := dt_Ref_wire_c0 8
theorem d_Ref_wire_13 : decode (jm_cod M_Ref_wire) 13 = .ok (.ldc2_w 609, 3) := dt_Ref_wire_c0 9
theorem d_Ref_wire_16 : decode (jm_cod M_Ref_wire) 16 = .ok (.invokestatic 599, 3) := dt_Ref_wire_c0 10
theorem d_Ref_wire_19 : decode (jm_cod M_Ref_wire) 19 = .ok (.ifCond .ne 7, 3) := dt_Ref_wire_c0 11
theorem d_Ref_wire_22 : decode (jm_cod M_Ref_wire) 22 = .ok (.iconst 1, 1) := dt_Ref_wire_c0 12
theorem d_Ref_wire_23 : decode (jm_cod M_Ref_wire) 23 = .ok (.goto 21, 3) := dt_Ref_wire_c0 13
theorem d_Ref_wire_26 : decode (jm_cod M_Ref_wire) 26 = .ok (.iload 4, 2) := dt_Ref_wire_c0 14
theorem d_Ref_wire_28 : decode (jm_cod M_Ref_wire) 28 = .ok (.i2l, 1) := dt_Ref_wire_c0 15
theorem d_Ref_wire_29 : decode (jm_cod M_Ref_wire) 29 = .ok (.lconst 0, 1) := dt_Ref_wire_c0 16
theorem d_Ref_wire_30 : decode (jm_cod M_Ref_wire) 30 = .ok (.ldc2_w 612, 3) := dt_Ref_wire_c0 17
theorem d_Ref_wire_33 : decode (jm_cod M_Ref_wire) 33 = .ok (.invokestatic 599, 3) := dt_Ref_wire_c0 18
theorem d_Ref_wire_36 : decode (jm_cod M_Ref_wire) 36 = .ok (.ifCond .ne 7, 3) := dt_Ref_wire_c0 19
theorem d_Ref_wire_39 : decode (jm_cod M_Ref_wire) 39 = .ok (.iconst 2, 1) := dt_Ref_wire_c0 20
theorem d_Ref_wire_40 : decode (jm_cod M_Ref_wire) 40 = .ok (.goto 4, 3) := dt_Ref_wire_c0 21
theorem d_Ref_wire_43 : decode (jm_cod M_Ref_wire) 43 = .ok (.iconst 0, 1) := dt_Ref_wire_c0 22
theorem d_Ref_wire_44 : decode (jm_cod M_Ref_wire) 44 = .ok (.putfield 303, 3) := dt_Ref_wire_c0 23
def tab_Ref_wire_c1 : List (Nat × Instr × Nat) := [(47, .aload_n 0, 1), (48, .getfield 303, 3), (51, .ifCond .le 5, 3), (54, .iconst 0, 1), (55, .ireturn, 1), (56, .iload_n 1, 1), (57, .iload_n 2, 1), (58, .iload_n 3, 1), (59, .invokestatic 631, 3), (62, .istore 5, 2), (64, .iload 4, 2), (66, .ifCond .ne 21, 3), (69, .aload_n 0, 1), (70, .getfield 88, 3), (73, .iload 5, 2), (75, .baload, 1), (76, .ifCond .eq 7, 3), (79, .iconst 1, 1), (80, .goto 38, 3), (83, .iconst 0, 1), (84, .goto 34, 3), (87, .iload 4, 2), (89, .iconst 1, 1), (90, .if_icmp .ne 21, 3)]
theorem dt_Ref_wire_c1 (i : Nat) : decode (jm_cod M_Ref_wire) (tab_Ref_wire_c1.getD i (47, .aload_n 0, 1)).1 = .ok ((tab_Ref_wire_c1.getD i (47, .aload_n 0, 1)).2.1, (tab_Ref_wire_c1.getD i (47, .aload_n 0, 1)).2.2) := j_tab (by decide +kernel) i
theorem d_Ref_wire_47 : decode (jm_cod M_Ref_wire) 47 = .ok (.aload_n 0, 1) := dt_Ref_wire_c1 0
theorem d_Ref_wire_48 : decode (jm_cod M_Ref_wire) 48 = .ok (.getfield 303, 3) := dt_Ref_wire_c1 1
theorem d_Ref_wire_51 : decode (jm_cod M_Ref_wire) 51 = .ok (.ifCond .le 5, 3) := dt_Ref_wire_c1 2
theorem d_Ref_wire_54 : decode (jm_cod M_Ref_wire) 54 = .ok (.iconst 0, 1) := dt_Ref_wire_c1 3
theorem d_Ref_wire_55 : decode (jm_cod M_Ref_wire) 55 = .ok (.ireturn, 1) := dt_Ref_wire_c1 4
theorem d_Ref_wire_56 : decode (jm_cod M_Ref_wire) 56 = .ok (.iload_n 1, 1) := dt_Ref_wire_c1 5
theorem d_Ref_wire_57 : decode (jm_cod M_Ref_wire) 57 = .ok (.iload_n 2, 1) := dt_Ref_wire_c1 6
theorem d_Ref_wire_58 : decode (jm_cod M_Ref_wire) 58 = .ok (.iload_n 3, 1) := dt_Ref_wire_c1 7
theorem d_Ref_wire_59 : decode (jm_cod M_Ref_wire) 59 = .ok (.invokestatic 631, 3) := dt_Ref_wire_c1 8
theorem d_Ref_wire_62 : decode (jm_cod M_Ref_wire) 62 = .ok (.istore 5, 2) := dt_Ref_wire_c1 9
theorem d_Ref_wire_64 : decode (jm_cod M_Ref_wire) 64 = .ok (.iload 4, 2) := dt_Ref_wire_c1 10
theorem d_Ref_wire_66 : decode (jm_cod M_Ref_wire) 66 = .ok (.ifCond .ne 21, 3) := dt_Ref_wire_c1 11
theorem d_Ref_wire_69 : decode (jm_cod M_Ref_wire) 69 = .ok (.aload_n 0, 1) := dt_Ref_wire_c1 12
theorem d_Ref_wire_70 : decode (jm_cod M_Ref_wire) 70 = .ok (.getfield 88, 3) := dt_Ref_wire_c1 13
theorem d_Ref_wire_73 : decode (jm_cod M_Ref_wire) 73 = .ok (.iload 5, 2) := dt_Ref_wire_c1 14
theorem d_Ref_wire_75 : decode (jm_cod M_Ref_wire) 75 = .ok (.baload, 1) := dt_Ref_wire_c1 15
theorem d_Ref_wire_76 : decode (jm_cod M_Ref_wire) 76 = .ok (.ifCond .eq 7, 3) := dt_Ref_wire_c1 16
theorem d_Ref_wire_79 : decode (jm_cod M_Ref_wire) 79 = .ok (.iconst 1, 1) := dt_Ref_wire_c1 17
theorem d_Ref_wire_80 : decode (jm_cod M_Ref_wire) 80 = .ok (.goto 38, 3) := dt_Ref_wire_c1 18
theorem d_Ref_wire_83 : decode (jm_cod M_Ref_wire) 83 = .ok (.iconst 0, 1) := dt_Ref_wire_c1 19
theorem d_Ref_wire_84 : decode (jm_cod M_Ref_wire) 84 = .ok (.goto 34, 3) := dt_Ref_wire_c1 20
theorem d_Ref_wire_87 : decode (jm_cod M_Ref_wire) 87 = .ok (.iload 4, 2) := dt_Ref_wire_c1 21
theorem d_Ref_wire_89 : decode (jm_cod M_Ref_wire) 89 = .ok (.iconst 1, 1) := dt_Ref_wire_c1 22
theorem d_Ref_wire_90 : decode (jm_cod M_Ref_wire) 90 = .ok (.if_icmp .ne 21, 3) := dt_Ref_wire_c1 23
def tab_Ref_wire_c2 : List (Nat × Instr × Nat) := [(93, .aload_n 0, 1), (94, .getfield 91, 3), (97, .iload 5, 2), (99, .baload, 1), (100, .ifCond .eq 7, 3), (103, .iconst 1, 1), (104, .goto 14, 3), (107, .iconst 0, 1), (108, .goto 10, 3), (111, .aload_n 0, 1), (112, .getfield 97, 3), (115, .iload 5, 2), (117, .iaload, 1), (118, .ireturn, 1)]
theorem dt_Ref_wire_c2 (i : Nat) : decode (jm_cod M_Ref_wire) (tab_Ref_wire_c2.getD i (93, .aload_n 0, 1)).1 = .ok ((tab_Ref_wire_c2.getD i (93, .aload_n 0, 1)).2.1, (tab_Ref_wire_c2.getD i (93, .aload_n 0, 1)).2.2) := j_tab (by decide +kernel) i
theorem d_Ref_wire_93 : decode (jm_cod M_Ref_wire) 93 = .ok (.aload_n 0, 1) := dt_Ref_wire_c2 0
theorem d_Ref_wire_94 : decode (jm_cod M_Ref_wire) 94 = .ok (.getfield 91, 3) := dt_Ref_wire_c2 1
theorem d_Ref_wire_97 : decode (jm_cod M_Ref_wire) 97 = .ok (.iload 5, 2) := dt_Ref_wire_c2 2
theorem d_Ref_wire_99 : decode (jm_cod M_Ref_wire) 99 = .ok (.baload, 1) := dt_Ref_wire_c2 3
theorem d_Ref_wire_100 : decode (jm_cod M_Ref_wire) 100 = .ok (.ifCond .eq 7, 3) := dt_Ref_wire_c2 4
theorem d_Ref_wire_103 : decode (jm_cod M_Ref_wire) 103 = .ok (.iconst 1, 1) := dt_Ref_wire_c2 5
theorem d_Ref_wire_104 : decode (jm_cod M_Ref_wire) 104 = .ok (.goto 14, 3) := dt_Ref_wire_c2 6
theorem d_Ref_wire_107 : decode (jm_cod M_Ref_wire) 107 = .ok (.iconst 0, 1) := dt_Ref_wire_c2 7
theorem d_Ref_wire_108 : decode (jm_cod M_Ref_wire) 108 = .ok (.goto 10, 3) := dt_Ref_wire_c2 8
theorem d_Ref_wire_111 : decode (jm_cod M_Ref_wire) 111 = .ok (.aload_n 0, 1) := dt_Ref_wire_c2 9
theorem d_Ref_wire_112 : decode (jm_cod M_Ref_wire) 112 = .ok (.getfield 97, 3) := dt_Ref_wire_c2 10
theorem d_Ref_wire_115 : decode (jm_cod M_Ref_wire) 115 = .ok (.iload 5, 2) := dt_Ref_wire_c2 11
theorem d_Ref_wire_117 : decode (jm_cod M_Ref_wire) 117 = .ok (.iaload, 1) := dt_Ref_wire_c2 12
theorem d_Ref_wire_118 : decode (jm_cod M_Ref_wire) 118 = .ok (.ireturn, 1) := dt_Ref_wire_c2 13
def tab_Ref_isSide_c0 : List (Nat × Instr × Nat) := [(0, .iload_n 1, 1), (1, .ifCond .ne 19, 3), (4, .iload_n 2, 1), (5, .i2l, 1), (6, .lconst 0, 1), (7, .aload_n 0, 1), (8, .getfield 290, 3), (11, .i2l, 1), (12, .lconst 1, 1), (13, .lsub, 1), (14, .invokestatic 599, 3), (17, .goto 29, 3), (20, .iload_n 1, 1), (21, .iconst 1, 1), (22, .if_icmp .ne 23, 3), (25, .iload_n 2, 1), (26, .i2l, 1), (27, .lconst 0, 1), (28, .aload_n 0, 1), (29, .getfield 294, 3), (32, .i2l, 1), (33, .lconst 1, 1), (34, .lsub, 1), (35, .invokestatic 599, 3)]
theorem dt_Ref_isSide_c0 (i : Nat) : decode (jm_cod M_Ref_isSide) (tab_Ref_isSide_c0.getD i (0, .iload_n 1, 1)).1 = .ok ((tab_Ref_isSide_c0.getD i (0, .iload_n 1, 1)).2.1, (tab_Ref_isSide_c0.getD i (0, .iload_n 1, 1)).2.2) := j_tab (by decide +kernel) i
theorem d_Ref_isSide_0 : decode (jm_cod M_Ref_isSide) 0 = .ok (.iload_n 1, 1) := dt_Ref_isSide_c0 0
theorem d_Ref_isSide_1 : decode (jm_cod M_Ref_isSide) 1 = .ok (.ifCond .ne 19, 3) := dt_Ref_isSide_c0 1
theorem d_Ref_isSide_4 : decode (jm_cod M_Ref_isSide) 4 = .ok (.iload_n 2, 1) := dt_Ref_isSide_c0 2
theorem d_Ref_isSide_5 : decode (jm_cod M_Ref_isSide) 5 = .ok (.i2l, 1) := dt_Ref_isSide_c0 3
theorem d_Ref_isSide_6 : decode (jm_cod M_Ref_isSide) 6 = .ok (.lconst 0, 1) := dt_Ref_isSide_c0 4
theorem d_Ref_isSide_7 : decode (jm_cod M_Ref_isSide) 7 = .ok (.aload_n 0, 1) := dt_Ref_isSide_c0 5
theorem d_Ref_isSide_8 : decode (jm_cod M_Ref_isSide) 8 = .ok (.getfield 290, 3) := dt_Ref_isSide_c0 6
theorem d_Ref_isSide_11 : decode (jm_cod M_Ref_isSide) 11 = .ok (.i2l, 1) := dt_Ref_isSide_c0 7
theorem d_Ref_isSide_12 : decode (jm_cod M_Ref_isSide) 12 = .ok (.lconst 1, 1) := dt_Ref_isSide_c0 8
theorem d_Ref_isSide_13 : decode (jm_cod M_Ref_isSide) 13 = .ok (.lsub, 1) := dt_Ref_isSide_c0 9
theorem d_Ref_isSide_14 : decode (jm_cod M_Ref_isSide) 14 = .ok (.invokestatic 599, 3) := dt_Ref_isSide_c0 10
theorem d_Ref_isSide_17 : decode (jm_cod M_Ref_isSide) 17 = .ok (.goto 29, 3) := dt_Ref_isSide_c0 11
theorem d_Ref_isSide_20 : decode (jm_cod M_Ref_isSide) 20 = .ok (.iload_n 1, 1) := dt_Ref_isSide_c0 12
theorem d_Ref_isSide_21 : decode (jm_cod M_Ref_isSide) 21 = .ok (.iconst 1, 1) := dt_Ref_isSide_c0 13
theorem d_Ref_isSide_22 : decode (jm_cod M_Ref_isSide) 22 = .ok (.if_icmp .ne 23, 3) := dt_Ref_isSide_c0 14
theorem d_Ref_isSide_25 : decode (jm_cod M_Ref_isSide) 25 = .ok (.iload_n 2, 1) := dt_Ref_isSide_c0 15
theorem d_Ref_isSide_26 : decode (jm_cod M_Ref_isSide) 26 = .ok (.i2l, 1) := dt_Ref_isSide_c0 16
theorem d_Ref_isSide_27 : decode (jm_cod M_Ref_isSide) 27 = .ok (.lconst 0, 1) := dt_Ref_isSide_c0 17
theorem d_Ref_isSide_28 : decode (jm_cod M_Ref_isSide) 28 = .ok (.aload_n 0, 1) := dt_Ref_isSide_c0 18
theorem d_Ref_isSide_29 : decode (jm_cod M_Ref_isSide) 29 = .ok (.getfield 294, 3) := dt_Ref_isSide_c0 19
theorem d_Ref_isSide_32 : decode (jm_cod M_Ref_isSide) 32 = .ok (.i2l, 1) := dt_Ref_isSide_c0 20
theorem d_Ref_isSide_33 : decode (jm_cod M_Ref_isSide) 33 = .ok (.lconst 1, 1) := dt_Ref_isSide_c0 21
theorem d_Ref_isSide_34 : decode (jm_cod M_Ref_isSide) 34 = .ok (.lsub, 1) := dt_Ref_isSide_c0 22
theorem d_Ref_isSide_35 : decode (jm_cod M_Ref_isSide) 35 = .ok (.invokestatic 599, 3) := dt_Ref_isSide_c0 23
def tab_Ref_isSide_c1 : List (Nat × Instr × Nat) := [(38, .ifCond .eq 7, 3), (41, .iconst 1, 1), (42, .goto 4, 3), (45, .iconst 0, 1), (46, .ireturn, 1)]
theorem dt_Ref_isSide_c1 (i : Nat) : decode (jm_cod M_Ref_isSide) (tab_Ref_isSide_c1.getD i (38, .ifCond .eq 7, 3)).1 = .ok ((tab_Ref_isSide_c1.getD i (38, .ifCond .eq 7, 3)).2.1, (tab_Ref_isSide_c1.getD i (38, .ifCond .eq 7, 3)).2.2) := j_tab (by decide +kernel) i
theorem d_Ref_isSide_38 : decode (jm_cod M_Ref_isSide) 38 = .ok (.ifCond .eq 7, 3) := dt_Ref_isSide_c1 0
theorem d_Ref_isSide_41 : decode (jm_cod M_Ref_isSide) 41 = .ok (.iconst 1, 1) := dt_Ref_isSide_c1 1
theorem d_Ref_isSide_42 : decode (jm_cod M_Ref_isSide) 42 = .ok (.goto 4, 3) := dt_Ref_isSide_c1 2
theorem d_Ref_isSide_45 : decode (jm_cod M_Ref_isSide) 45 = .ok (.iconst 0, 1) := dt_Ref_isSide_c1 3
theorem d_Ref_isSide_46 : decode (jm_cod M_Ref_isSide) 46 = .ok (.ireturn, 1) := dt_Ref_isSide_c1 4
def tab_Ref_wireOf_c0 : List (Nat × Instr × Nat) := [(0, .iconst 5, 1), (1, .iconst 4, 1), (2, .iload_n 0, 1), (3, .imul, 1), (4, .iload_n 1, 1), (5, .iadd, 1), (6, .imul, 1), (7, .iload_n 2, 1), (8, .iadd, 1), (9, .ireturn, 1)]
theorem dt_Ref_wireOf_c0 (i : Nat) : decode (jm_cod M_Ref_wireOf) (tab_Ref_wireOf_c0.getD i (0, .iconst 5, 1)).1 = .ok ((tab_Ref_wireOf_c0.getD i (0, .iconst 5, 1)).2.1, (tab_Ref_wireOf_c0.getD i (0, .iconst 5, 1)).2.2) := j_tab (by decide +kernel) i
theorem d_Ref_wireOf_0 : decode (jm_cod M_Ref_wireOf) 0 = .ok (.iconst 5, 1) := dt_Ref_wireOf_c0 0
theorem d_Ref_wireOf_1 : decode (jm_cod M_Ref_wireOf) 1 = .ok (.iconst 4, 1) := dt_Ref_wireOf_c0 1
theorem d_Ref_wireOf_2 : decode (jm_cod M_Ref_wireOf) 2 = .ok (.iload_n 0, 1) := dt_Ref_wireOf_c0 2
theorem d_Ref_wireOf_3 : decode (jm_cod M_Ref_wireOf) 3 = .ok (.imul, 1) := dt_Ref_wireOf_c0 3
theorem d_Ref_wireOf_4 : decode (jm_cod M_Ref_wireOf) 4 = .ok (.iload_n 1, 1) := dt_Ref_wireOf_c0 4
theorem d_Ref_wireOf_5 : decode (jm_cod M_Ref_wireOf) 5 = .ok (.iadd, 1) := dt_Ref_wireOf_c0 5
theorem d_Ref_wireOf_6 : decode (jm_cod M_Ref_wireOf) 6 = .ok (.imul, 1) := dt_Ref_wireOf_c0 6
theorem d_Ref_wireOf_7 : decode (jm_cod M_Ref_wireOf) 7 = .ok (.iload_n 2, 1) := dt_Ref_wireOf_c0 7
theorem d_Ref_wireOf_8 : decode (jm_cod M_Ref_wireOf) 8 = .ok (.iadd, 1) := dt_Ref_wireOf_c0 8
theorem d_Ref_wireOf_9 : decode (jm_cod M_Ref_wireOf) 9 = .ok (.ireturn, 1) := dt_Ref_wireOf_c0 9
def tab_Ref_content_c0 : List (Nat × Instr × Nat) := [(0, .aload_n 0, 1), (1, .aload_n 0, 1), (2, .iload_n 1, 1), (3, .iload_n 2, 1), (4, .invokevirtual 628, 3), (7, .ifCond .eq 19, 3), (10, .iload_n 3, 1), (11, .i2l, 1), (12, .lconst 0, 1), (13, .ldc2_w 609, 3), (16, .invokestatic 599, 3), (19, .ifCond .eq 7, 3), (22, .iconst 0, 1), (23, .goto 4, 3), (26, .iconst 1, 1), (27, .putfield 303, 3), (30, .aload_n 0, 1), (31, .getfield 303, 3), (34, .ifCond .le 7, 3), (37, .lconst 0, 1), (38, .goto 14, 3), (41, .aload_n 0, 1), (42, .getfield 94, 3), (45, .iload_n 1, 1)]
theorem dt_Ref_content_c0 (i : Nat) : decode (jm_cod M_Ref_content) (tab_Ref_content_c0.getD i (0, .aload_n 0, 1)).1 = .ok ((tab_Ref_content_c0.getD i (0, .aload_n 0, 1)).2.1, (tab_Ref_content_c0.getD i (0, .aload_n 0, 1)).2.2) := j_tab (by decide +kernel) i
theorem d_Ref_content_0 : decode (jm_cod M_Ref_content) 0 = .ok (.aload_n 0, 1) := dt_Ref_content_c0 0
theorem d_Ref_content_1 : decode (jm_cod M_Ref_content) 1 = .ok (.aload_n 0, 1) := dt_Ref_content_c0 1
theorem d_Ref_content_2 : decode (jm_cod M_Ref_content) 2 = .ok (.iload_n 1, 1) := dt_Ref_content_c0 2
theorem d_Ref_content_3 : decode (jm_cod M_Ref_content) 3 = .ok (.iload_n 2, 1) := dt_Ref_content_c0 3
theorem d_Ref_content_4 : decode (jm_cod M_Ref_content) 4 = .ok (.invokevirtual 628, 3) := dt_Ref_content_c0 4
theorem d_Ref_content_7 : decode (jm_cod M_Ref_content) 7 = .ok (.ifCond .eq 19, 3) := dt_Ref_content_c0 5
theorem d_Ref_content_10 : decode (jm_cod M_Ref_content) 10 = .ok (.iload_n 3, 1) := dt_Ref_content_c0 6
theorem d_Ref_content_11 : decode (jm_cod M_Ref_content) 11 = .ok (.i2l, 1) := dt_Ref_content_c0 7
theorem d_Ref_content_12 : decode (jm_cod M_Ref_content) 12 = .ok (.lconst 0, 1) := dt_Ref_content_c0 8
theorem d_Ref_content_13 : decode (jm_cod M_Ref_content) 13 = .ok (.ldc2_w 609, 3) := dt_Ref_content_c0 9
theorem d_Ref_content_16 : decode (jm_cod M_Ref_content) 16 = .ok (.invokestatic 599, 3) := dt_Ref_content_c0 10
theorem d_Ref_content_19 : decode (jm_cod M_Ref_content) 19 = .ok (.ifCond .eq 7, 3) := dt_Ref_content_c0 11
theorem d_Ref_content_22 : decode (jm_cod M_Ref_content) 22 = .ok (.iconst 0, 1) := dt_Ref_content_c0 12
theorem d_Ref_content_23 : decode (jm_cod M_Ref_content) 23 = .ok (.goto 4, 3) := dt_Ref_content_c0 13
theorem d_Ref_content_26 : decode (jm_cod M_Ref_content) 26 = .ok (.iconst 1, 1) := dt_Ref_content_c0 14
theorem d_Ref_content_27 : decode (jm_cod M_Ref_content) 27 = .ok (.putfield 303, 3) := dt_Ref_content_c0 15
theorem d_Ref_content_30 : decode (jm_cod M_Ref_content) 30 = .ok (.aload_n 0, 1) := dt_Ref_content_c0 16
theorem d_Ref_content_31 : decode (jm_cod M_Ref_content) 31 = .ok (.getfield 303, 3) := dt_Ref_content_c0 17
theorem d_Ref_content_34 : decode (jm_cod M_Ref_content) 34 = .ok (.ifCond .le 7, 3) := dt_Ref_content_c0 18
theorem d_Ref_content_37 : decode (jm_cod M_Ref_content) 37 = .ok (.lconst 0, 1) := dt_Ref_content_c0 19
theorem d_Ref_content_38 : decode (jm_cod M_Ref_content) 38 = .ok (.goto 14, 3) := dt_Ref_content_c0 20
theorem d_Ref_content_41 : decode (jm_cod M_Ref_content) 41 = .ok (.aload_n 0, 1) := dt_Ref_content_c0 21
theorem d_Ref_content_42 : decode (jm_cod M_Ref_content) 42 = .ok (.getfield 94, 3) := dt_Ref_content_c0 22
theorem d_Ref_content_45 : decode (jm_cod M_Ref_content) 45 = .ok (.iload_n 1, 1) := dt_Ref_content_c0 23
def tab_Ref_content_c1 : List (Nat × Instr × Nat) := [(46, .iload_n 2, 1), (47, .iload_n 3, 1), (48, .invokestatic 631, 3), (51, .laload, 1), (52, .lreturn, 1)]
theorem dt_Ref_content_c1 (i : Nat) : decode (jm_cod M_Ref_content) (tab_Ref_content_c1.getD i (46, .iload_n 2, 1)).1 = .ok ((tab_Ref_content_c1.getD i (46, .iload_n 2, 1)).2.1, (tab_Ref_content_c1.getD i (46, .iload_n 2, 1)).2.2) := j_tab (by decide +kernel) i
theorem d_Ref_content_46 : decode (jm_cod M_Ref_content) 46 = .ok (.iload_n 2, 1) := dt_Ref_content_c1 0
theorem d_Ref_content_47 : decode (jm_cod M_Ref_content) 47 = .ok (.iload_n 3, 1) := dt_Ref_content_c1 1
theorem d_Ref_content_48 : decode (jm_cod M_Ref_content) 48 = .ok (.invokestatic 631, 3) := dt_Ref_content_c1 2
theorem d_Ref_content_51 : decode (jm_cod M_Ref_content) 51 = .ok (.laload, 1) := dt_Ref_content_c1 3
theorem d_Ref_content_52 : decode (jm_cod M_Ref_content) 52 = .ok (.lreturn, 1) := dt_Ref_content_c1 4
def tab_Ref_port_c0 : List (Nat × Instr × Nat) := [(0, .aload_n 0, 1), (1, .aload_n 0, 1), (2, .iload_n 1, 1), (3, .iload_n 2, 1), (4, .invokevirtual 628, 3), (7, .ifCond .ne 7, 3), (10, .iconst 1, 1), (11, .goto 20, 3), (14, .iload_n 3, 1), (15, .i2l, 1), (16, .lconst 0, 1), (17, .ldc2_w 635, 3), (20, .invokestatic 599, 3), (23, .ifCond .ne 7, 3), (26, .iconst 2, 1), (27, .goto 4, 3), (30, .iconst 0, 1), (31, .putfield 303, 3), (34, .aload_n 0, 1), (35, .getfield 303, 3), (38, .ifCond .le 5, 3), (41, .iconst 0, 1), (42, .ireturn, 1), (43, .iconst 4, 1)]
theorem dt_Ref_port_c0 (i : Nat) : decode (jm_cod M_Ref_port) (tab_Ref_port_c0.getD i (0, .aload_n 0, 1)).1 = .ok ((tab_Ref_port_c0.getD i (0, .aload_n 0, 1)).2.1, (tab_Ref_port_c0.getD i (0, .aload_n 0, 1)).2.2) := j_tab (by decide +kernel) i
theorem d_Ref_port_0 : decode (jm_cod M_Ref_port) 0 = .ok (.aload_n 0, 1) := dt_Ref_port_c0 0
theorem d_Ref_port_1 : decode (jm_cod M_Ref_port) 1 = .ok (.aload_n 0, 1) := dt_Ref_port_c0 1
theorem d_Ref_port_2 : decode (jm_cod M_Ref_port) 2 = .ok (.iload_n 1, 1) := dt_Ref_port_c0 2
theorem d_Ref_port_3 : decode (jm_cod M_Ref_port) 3 = .ok (.iload_n 2, 1) := dt_Ref_port_c0 3
theorem d_Ref_port_4 : decode (jm_cod M_Ref_port) 4 = .ok (.invokevirtual 628, 3) := dt_Ref_port_c0 4
theorem d_Ref_port_7 : decode (jm_cod M_Ref_port) 7 = .ok (.ifCond .ne 7, 3) := dt_Ref_port_c0 5
theorem d_Ref_port_10 : decode (jm_cod M_Ref_port) 10 = .ok (.iconst 1, 1) := dt_Ref_port_c0 6
theorem d_Ref_port_11 : decode (jm_cod M_Ref_port) 11 = .ok (.goto 20, 3) := dt_Ref_port_c0 7
theorem d_Ref_port_14 : decode (jm_cod M_Ref_port) 14 = .ok (.iload_n 3, 1) := dt_Ref_port_c0 8
theorem d_Ref_port_15 : decode (jm_cod M_Ref_port) 15 = .ok (.i2l, 1) := dt_Ref_port_c0 9
theorem d_Ref_port_16 : decode (jm_cod M_Ref_port) 16 = .ok (.lconst 0, 1) := dt_Ref_port_c0 10
theorem d_Ref_port_17 : decode (jm_cod M_Ref_port) 17 = .ok (.ldc2_w 635, 3) := dt_Ref_port_c0 11
theorem d_Ref_port_20 : decode (jm_cod M_Ref_port) 20 = .ok (.invokestatic 599, 3) := dt_Ref_port_c0 12
theorem d_Ref_port_23 : decode (jm_cod M_Ref_port) 23 = .ok (.ifCond .ne 7, 3) := dt_Ref_port_c0 13
theorem d_Ref_port_26 : decode (jm_cod M_Ref_port) 26 = .ok (.iconst 2, 1) := dt_Ref_port_c0 14
theorem d_Ref_port_27 : decode (jm_cod M_Ref_port) 27 = .ok (.goto 4, 3) := dt_Ref_port_c0 15
theorem d_Ref_port_30 : decode (jm_cod M_Ref_port) 30 = .ok (.iconst 0, 1) := dt_Ref_port_c0 16
theorem d_Ref_port_31 : decode (jm_cod M_Ref_port) 31 = .ok (.putfield 303, 3) := dt_Ref_port_c0 17
theorem d_Ref_port_34 : decode (jm_cod M_Ref_port) 34 = .ok (.aload_n 0, 1) := dt_Ref_port_c0 18
theorem d_Ref_port_35 : decode (jm_cod M_Ref_port) 35 = .ok (.getfield 303, 3) := dt_Ref_port_c0 19
theorem d_Ref_port_38 : decode (jm_cod M_Ref_port) 38 = .ok (.ifCond .le 5, 3) := dt_Ref_port_c0 20
theorem d_Ref_port_41 : decode (jm_cod M_Ref_port) 41 = .ok (.iconst 0, 1) := dt_Ref_port_c0 21
theorem d_Ref_port_42 : decode (jm_cod M_Ref_port) 42 = .ok (.ireturn, 1) := dt_Ref_port_c0 22
theorem d_Ref_port_43 : decode (jm_cod M_Ref_port) 43 = .ok (.iconst 4, 1) := dt_Ref_port_c0 23
def tab_Ref_port_c1 : List (Nat × Instr × Nat) := [(44, .iload_n 1, 1), (45, .imul, 1), (46, .iload_n 2, 1), (47, .iadd, 1), (48, .istore 4, 2), (50, .iload_n 3, 1), (51, .iconst 5, 1), (52, .if_icmp .ge 17, 3), (55, .aload_n 0, 1), (56, .getfield 103, 3), (59, .iconst 5, 1), (60, .iload 4, 2), (62, .imul, 1), (63, .iload_n 3, 1), (64, .iadd, 1), (65, .iaload, 1), (66, .goto 41, 3), (69, .iload_n 3, 1), (70, .iconst 5, 1), (71, .if_icmp .ne 13, 3), (74, .aload_n 0, 1), (75, .getfield 238, 3), (78, .iload 4, 2), (80, .iaload, 1)]
theorem dt_Ref_port_c1 (i : Nat) : decode (jm_cod M_Ref_port) (tab_Ref_port_c1.getD i (44, .iload_n 1, 1)).1 = .ok ((tab_Ref_port_c1.getD i (44, .iload_n 1, 1)).2.1, (tab_Ref_port_c1.getD i (44, .iload_n 1, 1)).2.2) := j_tab (by decide +kernel) i
theorem d_Ref_port_44 : decode (jm_cod M_Ref_port) 44 = .ok (.iload_n 1, 1) := dt_Ref_port_c1 0
theorem d_Ref_port_45 : decode (jm_cod M_Ref_port) 45 = .ok (.imul, 1) := dt_Ref_port_c1 1
theorem d_Ref_port_46 : decode (jm_cod M_Ref_port) 46 = .ok (.iload_n 2, 1) := dt_Ref_port_c1 2
theorem d_Ref_port_47 : decode (jm_cod M_Ref_port) 47 = .ok (.iadd, 1) := dt_Ref_port_c1 3
theorem d_Ref_port_48 : decode (jm_cod M_Ref_port) 48 = .ok (.istore 4, 2) := dt_Ref_port_c1 4
theorem d_Ref_port_50 : decode (jm_cod M_Ref_port) 50 = .ok (.iload_n 3, 1) := dt_Ref_port_c1 5
theorem d_Ref_port_51 : decode (jm_cod M_Ref_port) 51 = .ok (.iconst 5, 1) := dt_Ref_port_c1 6
theorem d_Ref_port_52 : decode (jm_cod M_Ref_port) 52 = .ok (.if_icmp .ge 17, 3) := dt_Ref_port_c1 7
theorem d_Ref_port_55 : decode (jm_cod M_Ref_port) 55 = .ok (.aload_n 0, 1) := dt_Ref_port_c1 8
theorem d_Ref_port_56 : decode (jm_cod M_Ref_port) 56 = .ok (.getfield 103, 3) := dt_Ref_port_c1 9
theorem d_Ref_port_59 : decode (jm_cod M_Ref_port) 59 = .ok (.iconst 5, 1) := dt_Ref_port_c1 10
theorem d_Ref_port_60 : decode (jm_cod M_Ref_port) 60 = .ok (.iload 4, 2) := dt_Ref_port_c1 11
theorem d_Ref_port_62 : decode (jm_cod M_Ref_port) 62 = .ok (.imul, 1) := dt_Ref_port_c1 12
theorem d_Ref_port_63 : decode (jm_cod M_Ref_port) 63 = .ok (.iload_n 3, 1) := dt_Ref_port_c1 13
theorem d_Ref_port_64 : decode (jm_cod M_Ref_port) 64 = .ok (.iadd, 1) := dt_Ref_port_c1 14
theorem d_Ref_port_65 : decode (jm_cod M_Ref_port) 65 = .ok (.iaload, 1) := dt_Ref_port_c1 15
theorem d_Ref_port_66 : decode (jm_cod M_Ref_port) 66 = .ok (.goto 41, 3) := dt_Ref_port_c1 16
theorem d_Ref_port_69 : decode (jm_cod M_Ref_port) 69 = .ok (.iload_n 3, 1) := dt_Ref_port_c1 17
theorem d_Ref_port_70 : decode (jm_cod M_Ref_port) 70 = .ok (.iconst 5, 1) := dt_Ref_port_c1 18
theorem d_Ref_port_71 : decode (jm_cod M_Ref_port) 71 = .ok (.if_icmp .ne 13, 3) := dt_Ref_port_c1 19
theorem d_Ref_port_74 : decode (jm_cod M_Ref_port) 74 = .ok (.aload_n 0, 1) := dt_Ref_port_c1 20
theorem d_Ref_port_75 : decode (jm_cod M_Ref_port) 75 = .ok (.getfield 238, 3) := dt_Ref_port_c1 21
theorem d_Ref_port_78 : decode (jm_cod M_Ref_port) 78 = .ok (.iload 4, 2) := dt_Ref_port_c1 22
theorem d_Ref_port_80 : decode (jm_cod M_Ref_port) 80 = .ok (.iaload, 1) := dt_Ref_port_c1 23
def tab_Ref_port_c2 : List (Nat × Instr × Nat) := [(81, .goto 26, 3), (84, .iload_n 3, 1), (85, .bipush 6, 2), (87, .if_icmp .ne 13, 3), (90, .aload_n 0, 1), (91, .getfield 241, 3), (94, .iload 4, 2), (96, .iaload, 1), (97, .goto 10, 3), (100, .aload_n 0, 1), (101, .getfield 244, 3), (104, .iload 4, 2), (106, .iaload, 1), (107, .ireturn, 1)]
theorem dt_Ref_port_c2 (i : Nat) : decode (jm_cod M_Ref_port) (tab_Ref_port_c2.getD i (81, .goto 26, 3)).1 = .ok ((tab_Ref_port_c2.getD i (81, .goto 26, 3)).2.1, (tab_Ref_port_c2.getD i (81, .goto 26, 3)).2.2) := j_tab (by decide +kernel) i
theorem d_Ref_port_81 : decode (jm_cod M_Ref_port) 81 = .ok (.goto 26, 3) := dt_Ref_port_c2 0
theorem d_Ref_port_84 : decode (jm_cod M_Ref_port) 84 = .ok (.iload_n 3, 1) := dt_Ref_port_c2 1
theorem d_Ref_port_85 : decode (jm_cod M_Ref_port) 85 = .ok (.bipush 6, 2) := dt_Ref_port_c2 2
theorem d_Ref_port_87 : decode (jm_cod M_Ref_port) 87 = .ok (.if_icmp .ne 13, 3) := dt_Ref_port_c2 3
theorem d_Ref_port_90 : decode (jm_cod M_Ref_port) 90 = .ok (.aload_n 0, 1) := dt_Ref_port_c2 4
theorem d_Ref_port_91 : decode (jm_cod M_Ref_port) 91 = .ok (.getfield 241, 3) := dt_Ref_port_c2 5
theorem d_Ref_port_94 : decode (jm_cod M_Ref_port) 94 = .ok (.iload 4, 2) := dt_Ref_port_c2 6
theorem d_Ref_port_96 : decode (jm_cod M_Ref_port) 96 = .ok (.iaload, 1) := dt_Ref_port_c2 7
theorem d_Ref_port_97 : decode (jm_cod M_Ref_port) 97 = .ok (.goto 10, 3) := dt_Ref_port_c2 8
theorem d_Ref_port_100 : decode (jm_cod M_Ref_port) 100 = .ok (.aload_n 0, 1) := dt_Ref_port_c2 9
theorem d_Ref_port_101 : decode (jm_cod M_Ref_port) 101 = .ok (.getfield 244, 3) := dt_Ref_port_c2 10
theorem d_Ref_port_104 : decode (jm_cod M_Ref_port) 104 = .ok (.iload 4, 2) := dt_Ref_port_c2 11
theorem d_Ref_port_106 : decode (jm_cod M_Ref_port) 106 = .ok (.iaload, 1) := dt_Ref_port_c2 12
theorem d_Ref_port_107 : decode (jm_cod M_Ref_port) 107 = .ok (.ireturn, 1) := dt_Ref_port_c2 13
def tab_Ref_target_c0 : List (Nat × Instr × Nat) := [(0, .aload_n 0, 1), (1, .iload_n 1, 1), (2, .i2l, 1), (3, .lconst 0, 1), (4, .aload_n 0, 1), (5, .getfield 294, 3), (8, .i2l, 1), (9, .invokestatic 599, 3), (12, .ifCond .ne 7, 3), (15, .iconst 1, 1), (16, .goto 20, 3), (19, .iload_n 2, 1), (20, .i2l, 1), (21, .lconst 0, 1), (22, .ldc2_w 312, 3), (25, .invokestatic 599, 3), (28, .ifCond .ne 7, 3), (31, .iconst 2, 1), (32, .goto 4, 3), (35, .iconst 0, 1), (36, .putfield 303, 3), (39, .aload_n 0, 1), (40, .getfield 303, 3), (43, .ifCond .le 5, 3)]
theorem dt_Ref_target_c0 (i : Nat) : decode (jm_cod M_Ref_target) (tab_Ref_target_c0.getD i (0, .aload_n 0, 1)).1 = .ok ((tab_Ref_target_c0.getD i (0, .aload_n 0, 1)).2.1, (tab_Ref_target_c0.getD i (0, .aload_n 0, 1)).2.2) := j_tab (by decide +kernel) i
theorem d_Ref_target_0 : decode (jm_cod M_Ref_target) 0 = .ok (.aload_n 0, 1) := dt_Ref_target_c0 0
theorem d_Ref_target_1 : decode (jm_cod M_Ref_target) 1 = .ok (.iload_n 1, 1) := dt_Ref_target_c0 1
theorem d_Ref_target_2 : decode (jm_cod M_Ref_target) 2 = .ok (.i2l, 1) := dt_Ref_target_c0 2
theorem d_Ref_target_3 : decode (jm_cod M_Ref_target) 3 = .ok (.lconst 0, 1) := dt_Ref_target_c0 3
theorem d_Ref_target_4 : decode (jm_cod M_Ref_target) 4 = .ok (.aload_n 0, 1) := dt_Ref_target_c0 4
theorem d_Ref_target_5 : decode (jm_cod M_Ref_target) 5 = .ok (.getfield 294, 3) := dt_Ref_target_c0 5
theorem d_Ref_target_8 : decode (jm_cod M_Ref_target) 8 = .ok (.i2l, 1) := dt_Ref_target_c0 6
theorem d_Ref_target_9 : decode (jm_cod M_Ref_target) 9 = .ok (.invokestatic 599, 3) := dt_Ref_target_c0 7
theorem d_Ref_target_12 : decode (jm_cod M_Ref_target) 12 = .ok (.ifCond .ne 7, 3) := dt_Ref_target_c0 8
theorem d_Ref_target_15 : decode (jm_cod M_Ref_target) 15 = .ok (.iconst 1, 1) := dt_Ref_target_c0 9
theorem d_Ref_target_16 : decode (jm_cod M_Ref_target) 16 = .ok (.goto 20, 3) := dt_Ref_target_c0 10
theorem d_Ref_target_19 : decode (jm_cod M_Ref_target) 19 = .ok (.iload_n 2, 1) := dt_Ref_target_c0 11
theorem d_Ref_target_20 : decode (jm_cod M_Ref_target) 20 = .ok (.i2l, 1) := dt_Ref_target_c0 12
theorem d_Ref_target_21 : decode (jm_cod M_Ref_target) 21 = .ok (.lconst 0, 1) := dt_Ref_target_c0 13
theorem d_Ref_target_22 : decode (jm_cod M_Ref_target) 22 = .ok (.ldc2_w 312, 3) := dt_Ref_target_c0 14
theorem d_Ref_target_25 : decode (jm_cod M_Ref_target) 25 = .ok (.invokestatic 599, 3) := dt_Ref_target_c0 15
theorem d_Ref_target_28 : decode (jm_cod M_Ref_target) 28 = .ok (.ifCond .ne 7, 3) := dt_Ref_target_c0 16
theorem d_Ref_target_31 : decode (jm_cod M_Ref_target) 31 = .ok (.iconst 2, 1) := dt_Ref_target_c0 17
theorem d_Ref_target_32 : decode (jm_cod M_Ref_target) 32 = .ok (.goto 4, 3) := dt_Ref_target_c0 18
theorem d_Ref_target_35 : decode (jm_cod M_Ref_target) 35 = .ok (.iconst 0, 1) := dt_Ref_target_c0 19
theorem d_Ref_target_36 : decode (jm_cod M_Ref_target) 36 = .ok (.putfield 303, 3) := dt_Ref_target_c0 20
theorem d_Ref_target_39 : decode (jm_cod M_Ref_target) 39 = .ok (.aload_n 0, 1) := dt_Ref_target_c0 21
theorem d_Ref_target_40 : decode (jm_cod M_Ref_target) 40 = .ok (.getfield 303, 3) := dt_Ref_target_c0 22
theorem d_Ref_target_43 : decode (jm_cod M_Ref_target) 43 = .ok (.ifCond .le 5, 3) := dt_Ref_target_c0 23
def tab_Ref_target_c1 : List (Nat × Instr × Nat) := [(46, .iconst 0, 1), (47, .ireturn, 1), (48, .iconst 0, 1), (49, .istore_n 3, 1), (50, .iconst 0, 1), (51, .istore 4, 2), (53, .iload 4, 2), (55, .aload_n 0, 1), (56, .getfield 526, 3), (59, .if_icmp .ge 32, 3), (62, .iload_n 2, 1), (63, .ifCond .ne 28, 3), (66, .iload_n 3, 1), (67, .aload_n 0, 1), (68, .getfield 124, 3), (71, .iload 4, 2), (73, .iaload, 1), (74, .iload_n 1, 1), (75, .if_icmp .ne 7, 3), (78, .iconst 1, 1), (79, .goto 4, 3), (82, .iconst 0, 1), (83, .iadd, 1), (84, .istore_n 3, 1)]
theorem dt_Ref_target_c1 (i : Nat) : decode (jm_cod M_Ref_target) (tab_Ref_target_c1.getD i (46, .iconst 0, 1)).1 = .ok ((tab_Ref_target_c1.getD i (46, .iconst 0, 1)).2.1, (tab_Ref_target_c1.getD i (46, .iconst 0, 1)).2.2) := j_tab (by decide +kernel) i
theorem d_Ref_target_46 : decode (jm_cod M_Ref_target) 46 = .ok (.iconst 0, 1) := dt_Ref_target_c1 0
theorem d_Ref_target_47 : decode (jm_cod M_Ref_target) 47 = .ok (.ireturn, 1) := dt_Ref_target_c1 1
theorem d_Ref_target_48 : decode (jm_cod M_Ref_target) 48 = .ok (.iconst 0, 1) := dt_Ref_target_c1 2
theorem d_Ref_target_49 : decode (jm_cod M_Ref_target) 49 = .ok (.istore_n 3, 1) := dt_Ref_target_c1 3
theorem d_Ref_target_50 : decode (jm_cod M_Ref_target) 50 = .ok (.iconst 0, 1) := dt_Ref_target_c1 4
theorem d_Ref_target_51 : decode (jm_cod M_Ref_target) 51 = .ok (.istore 4, 2) := dt_Ref_target_c1 5
theorem d_Ref_target_53 : decode (jm_cod M_Ref_target) 53 = .ok (.iload 4, 2) := dt_Ref_target_c1 6
theorem d_Ref_target_55 : decode (jm_cod M_Ref_target) 55 = .ok (.aload_n 0, 1) := dt_Ref_target_c1 7
theorem d_Ref_target_56 : decode (jm_cod M_Ref_target) 56 = .ok (.getfield 526, 3) := dt_Ref_target_c1 8
theorem d_Ref_target_59 : decode (jm_cod M_Ref_target) 59 = .ok (.if_icmp .ge 32, 3) := dt_Ref_target_c1 9
theorem d_Ref_target_62 : decode (jm_cod M_Ref_target) 62 = .ok (.iload_n 2, 1) := dt_Ref_target_c1 10
theorem d_Ref_target_63 : decode (jm_cod M_Ref_target) 63 = .ok (.ifCond .ne 28, 3) := dt_Ref_target_c1 11
theorem d_Ref_target_66 : decode (jm_cod M_Ref_target) 66 = .ok (.iload_n 3, 1) := dt_Ref_target_c1 12
theorem d_Ref_target_67 : decode (jm_cod M_Ref_target) 67 = .ok (.aload_n 0, 1) := dt_Ref_target_c1 13
theorem d_Ref_target_68 : decode (jm_cod M_Ref_target) 68 = .ok (.getfield 124, 3) := dt_Ref_target_c1 14
theorem d_Ref_target_71 : decode (jm_cod M_Ref_target) 71 = .ok (.iload 4, 2) := dt_Ref_target_c1 15
theorem d_Ref_target_73 : decode (jm_cod M_Ref_target) 73 = .ok (.iaload, 1) := dt_Ref_target_c1 16
theorem d_Ref_target_74 : decode (jm_cod M_Ref_target) 74 = .ok (.iload_n 1, 1) := dt_Ref_target_c1 17
theorem d_Ref_target_75 : decode (jm_cod M_Ref_target) 75 = .ok (.if_icmp .ne 7, 3) := dt_Ref_target_c1 18
theorem d_Ref_target_78 : decode (jm_cod M_Ref_target) 78 = .ok (.iconst 1, 1) := dt_Ref_target_c1 19
theorem d_Ref_target_79 : decode (jm_cod M_Ref_target) 79 = .ok (.goto 4, 3) := dt_Ref_target_c1 20
theorem d_Ref_target_82 : decode (jm_cod M_Ref_target) 82 = .ok (.iconst 0, 1) := dt_Ref_target_c1 21
theorem d_Ref_target_83 : decode (jm_cod M_Ref_target) 83 = .ok (.iadd, 1) := dt_Ref_target_c1 22
theorem d_Ref_target_84 : decode (jm_cod M_Ref_target) 84 = .ok (.istore_n 3, 1) := dt_Ref_target_c1 23
def tab_Ref_target_c2 : List (Nat × Instr × Nat) := [(85, .iinc 4 1, 3), (88, .goto (-35), 3), (91, .iconst 0, 1), (92, .istore 4, 2), (94, .iload 4, 2), (96, .aload_n 0, 1), (97, .getfield 529, 3), (100, .if_icmp .ge 33, 3), (103, .iload_n 2, 1), (104, .iconst 1, 1), (105, .if_icmp .ne 28, 3), (108, .iload_n 3, 1), (109, .aload_n 0, 1), (110, .getfield 136, 3), (113, .iload 4, 2), (115, .iaload, 1), (116, .iload_n 1, 1), (117, .if_icmp .ne 7, 3), (120, .iconst 1, 1), (121, .goto 4, 3), (124, .iconst 0, 1), (125, .iadd, 1), (126, .istore_n 3, 1), (127, .iinc 4 1, 3)]
theorem dt_Ref_target_c2 (i : Nat) : decode (jm_cod M_Ref_target) (tab_Ref_target_c2.getD i (85, .iinc 4 1, 3)).1 = .ok ((tab_Ref_target_c2.getD i (85, .iinc 4 1, 3)).2.1, (tab_Ref_target_c2.getD i (85, .iinc 4 1, 3)).2.2) := j_tab (by decide +kernel) i
theorem d_Ref_target_85 : decode (jm_cod M_Ref_target) 85 = .ok (.iinc 4 1, 3) := dt_Ref_target_c2 0
theorem d_Ref_target_88 : decode (jm_cod M_Ref_target) 88 = .ok (.goto (-35), 3) := dt_Ref_target_c2 1
theorem d_Ref_target_91 : decode (jm_cod M_Ref_target) 91 = .ok (.iconst 0, 1) := dt_Ref_target_c2 2
theorem d_Ref_target_92 : decode (jm_cod M_Ref_target) 92 = .ok (.istore 4, 2) := dt_Ref_target_c2 3
theorem d_Ref_target_94 : decode (jm_cod M_Ref_target) 94 = .ok (.iload 4, 2) := dt_Ref_target_c2 4
theorem d_Ref_target_96 : decode (jm_cod M_Ref_target) 96 = .ok (.aload_n 0, 1) := dt_Ref_target_c2 5
theorem d_Ref_target_97 : decode (jm_cod M_Ref_target) 97 = .ok (.getfield 529, 3) := dt_Ref_target_c2 6
theorem d_Ref_target_100 : decode (jm_cod M_Ref_target) 100 = .ok (.if_icmp .ge 33, 3) := dt_Ref_target_c2 7
theorem d_Ref_target_103 : decode (jm_cod M_Ref_target) 103 = .ok (.iload_n 2, 1) := dt_Ref_target_c2 8
theorem d_Ref_target_104 : decode (jm_cod M_Ref_target) 104 = .ok (.iconst 1, 1) := dt_Ref_target_c2 9
theorem d_Ref_target_105 : decode (jm_cod M_Ref_target) 105 = .ok (.if_icmp .ne 28, 3) := dt_Ref_target_c2 10
theorem d_Ref_target_108 : decode (jm_cod M_Ref_target) 108 = .ok (.iload_n 3, 1) := dt_Ref_target_c2 11
theorem d_Ref_target_109 : decode (jm_cod M_Ref_target) 109 = .ok (.aload_n 0, 1) := dt_Ref_target_c2 12
theorem d_Ref_target_110 : decode (jm_cod M_Ref_target) 110 = .ok (.getfield 136, 3) := dt_Ref_target_c2 13
theorem d_Ref_target_113 : decode (jm_cod M_Ref_target) 113 = .ok (.iload 4, 2) := dt_Ref_target_c2 14
theorem d_Ref_target_115 : decode (jm_cod M_Ref_target) 115 = .ok (.iaload, 1) := dt_Ref_target_c2 15
theorem d_Ref_target_116 : decode (jm_cod M_Ref_target) 116 = .ok (.iload_n 1, 1) := dt_Ref_target_c2 16
theorem d_Ref_target_117 : decode (jm_cod M_Ref_target) 117 = .ok (.if_icmp .ne 7, 3) := dt_Ref_target_c2 17
theorem d_Ref_target_120 : decode (jm_cod M_Ref_target) 120 = .ok (.iconst 1, 1) := dt_Ref_target_c2 18
theorem d_Ref_target_121 : decode (jm_cod M_Ref_target) 121 = .ok (.goto 4, 3) := dt_Ref_target_c2 19
theorem d_Ref_target_124 : decode (jm_cod M_Ref_target) 124 = .ok (.iconst 0, 1) := dt_Ref_target_c2 20
theorem d_Ref_target_125 : decode (jm_cod M_Ref_target) 125 = .ok (.iadd, 1) := dt_Ref_target_c2 21
theorem d_Ref_target_126 : decode (jm_cod M_Ref_target) 126 = .ok (.istore_n 3, 1) := dt_Ref_target_c2 22
theorem d_Ref_target_127 : decode (jm_cod M_Ref_target) 127 = .ok (.iinc 4 1, 3) := dt_Ref_target_c2 23
def tab_Ref_target_c3 : List (Nat × Instr × Nat) := [(130, .goto (-36), 3), (133, .iload_n 2, 1), (134, .iconst 2, 1), (135, .if_icmp .ge 7, 3), (138, .iload_n 3, 1), (139, .goto 35, 3), (142, .iload_n 1, 1), (143, .aload_n 0, 1), (144, .getfield 294, 3), (147, .if_icmp .ne 7, 3), (150, .iconst 0, 1), (151, .goto 23, 3), (154, .iload_n 2, 1), (155, .iconst 2, 1), (156, .if_icmp .ne 12, 3), (159, .aload_n 0, 1), (160, .getfield 154, 3), (163, .iload_n 1, 1), (164, .iaload, 1), (165, .goto 9, 3), (168, .aload_n 0, 1), (169, .getfield 181, 3), (172, .iload_n 1, 1), (173, .iaload, 1)]
theorem dt_Ref_target_c3 (i : Nat) : decode (jm_cod M_Ref_target) (tab_Ref_target_c3.getD i (130, .goto (-36), 3)).1 = .ok ((tab_Ref_target_c3.getD i (130, .goto (-36), 3)).2.1, (tab_Ref_target_c3.getD i (130, .goto (-36), 3)).2.2) := j_tab (by decide +kernel) i
theorem d_Ref_target_130 : decode (jm_cod M_Ref_target) 130 = .ok (.goto (-36), 3) := dt_Ref_target_c3 0
theorem d_Ref_target_133 : decode (jm_cod M_Ref_target) 133 = .ok (.iload_n 2, 1) := dt_Ref_target_c3 1
theorem d_Ref_target_134 : decode (jm_cod M_Ref_target) 134 = .ok (.iconst 2, 1) := dt_Ref_target_c3 2
theorem d_Ref_target_135 : decode (jm_cod M_Ref_target) 135 = .ok (.if_icmp .ge 7, 3) := dt_Ref_target_c3 3
theorem d_Ref_target_138 : decode (jm_cod M_Ref_target) 138 = .ok (.iload_n 3, 1) := dt_Ref_target_c3 4
theorem d_Ref_target_139 : decode (jm_cod M_Ref_target) 139 = .ok (.goto 35, 3) := dt_Ref_target_c3 5
theorem d_Ref_target_142 : decode (jm_cod M_Ref_target) 142 = .ok (.iload_n 1, 1) := dt_Ref_target_c3 6
theorem d_Ref_target_143 : decode (jm_cod M_Ref_target) 143 = .ok (.aload_n 0, 1) := dt_Ref_target_c3 7
theorem d_Ref_target_144 : decode (jm_cod M_Ref_target) 144 = .ok (.getfield 294, 3) := dt_Ref_target_c3 8
theorem d_Ref_target_147 : decode (jm_cod M_Ref_target) 147 = .ok (.if_icmp .ne 7, 3) := dt_Ref_target_c3 9
theorem d_Ref_target_150 : decode (jm_cod M_Ref_target) 150 = .ok (.iconst 0, 1) := dt_Ref_target_c3 10
theorem d_Ref_target_151 : decode (jm_cod M_Ref_target) 151 = .ok (.goto 23, 3) := dt_Ref_target_c3 11
theorem d_Ref_target_154 : decode (jm_cod M_Ref_target) 154 = .ok (.iload_n 2, 1) := dt_Ref_target_c3 12
theorem d_Ref_target_155 : decode (jm_cod M_Ref_target) 155 = .ok (.iconst 2, 1) := dt_Ref_target_c3 13
theorem d_Ref_target_156 : decode (jm_cod M_Ref_target) 156 = .ok (.if_icmp .ne 12, 3) := dt_Ref_target_c3 14
theorem d_Ref_target_159 : decode (jm_cod M_Ref_target) 159 = .ok (.aload_n 0, 1) := dt_Ref_target_c3 15
theorem d_Ref_target_160 : decode (jm_cod M_Ref_target) 160 = .ok (.getfield 154, 3) := dt_Ref_target_c3 16
theorem d_Ref_target_163 : decode (jm_cod M_Ref_target) 163 = .ok (.iload_n 1, 1) := dt_Ref_target_c3 17
theorem d_Ref_target_164 : decode (jm_cod M_Ref_target) 164 = .ok (.iaload, 1) := dt_Ref_target_c3 18
theorem d_Ref_target_165 : decode (jm_cod M_Ref_target) 165 = .ok (.goto 9, 3) := dt_Ref_target_c3 19
theorem d_Ref_target_168 : decode (jm_cod M_Ref_target) 168 = .ok (.aload_n 0, 1) := dt_Ref_target_c3 20
theorem d_Ref_target_169 : decode (jm_cod M_Ref_target) 169 = .ok (.getfield 181, 3) := dt_Ref_target_c3 21
theorem d_Ref_target_172 : decode (jm_cod M_Ref_target) 172 = .ok (.iload_n 1, 1) := dt_Ref_target_c3 22
theorem d_Ref_target_173 : decode (jm_cod M_Ref_target) 173 = .ok (.iaload, 1) := dt_Ref_target_c3 23
