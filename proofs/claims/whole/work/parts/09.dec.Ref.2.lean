def tab_Ref_isFirstWithId_c1 : List (Nat × Instr × Nat) := [(40, .getfield 184, 3), (43, .iconst 4, 1), (44, .iload_n 1, 1), (45, .imul, 1), (46, .iload 5, 2), (48, .iadd, 1), (49, .iaload, 1), (50, .laload, 1), (51, .lstore 6, 2), (53, .iload_n 3, 1), (54, .ifCond .eq 21, 3), (57, .aload_n 0, 1), (58, .getfield 163, 3), (61, .aload_n 0, 1), (62, .getfield 157, 3), (65, .iconst 4, 1), (66, .iload_n 1, 1), (67, .imul, 1), (68, .iload_n 2, 1), (69, .iadd, 1), (70, .iaload, 1), (71, .laload, 1), (72, .goto 18, 3), (75, .aload_n 0, 1)]
theorem dt_Ref_isFirstWithId_c1 (i : Nat) : decode (jm_cod M_Ref_isFirstWithId) (tab_Ref_isFirstWithId_c1.getD i (40, .getfield 184, 3)).1 = .ok ((tab_Ref_isFirstWithId_c1.getD i (40, .getfield 184, 3)).2.1, (tab_Ref_isFirstWithId_c1.getD i (40, .getfield 184, 3)).2.2) := j_tab (by decide +kernel) i
theorem d_Ref_isFirstWithId_40 : decode (jm_cod M_Ref_isFirstWithId) 40 = .ok (.getfield 184, 3) := dt_Ref_isFirstWithId_c1 0
theorem d_Ref_isFirstWithId_43 : decode (jm_cod M_Ref_isFirstWithId) 43 = .ok (.iconst 4, 1) := dt_Ref_isFirstWithId_c1 1
theorem d_Ref_isFirstWithId_44 : decode (jm_cod M_Ref_isFirstWithId) 44 = .ok (.iload_n 1, 1) := dt_Ref_isFirstWithId_c1 2
theorem d_Ref_isFirstWithId_45 : decode (jm_cod M_Ref_isFirstWithId) 45 = .ok (.imul, 1) := dt_Ref_isFirstWithId_c1 3
theorem d_Ref_isFirstWithId_46 : decode (jm_cod M_Ref_isFirstWithId) 46 = .ok (.iload 5, 2) := dt_Ref_isFirstWithId_c1 4
theorem d_Ref_isFirstWithId_48 : decode (jm_cod M_Ref_isFirstWithId) 48 = .ok (.iadd, 1) := dt_Ref_isFirstWithId_c1 5
theorem d_Ref_isFirstWithId_49 : decode (jm_cod M_Ref_isFirstWithId) 49 = .ok (.iaload, 1) := dt_Ref_isFirstWithId_c1 6
theorem d_Ref_isFirstWithId_50 : decode (jm_cod M_Ref_isFirstWithId) 50 = .ok (.laload, 1) := dt_Ref_isFirstWithId_c1 7
theorem d_Ref_isFirstWithId_51 : decode (jm_cod M_Ref_isFirstWithId) 51 = .ok (.lstore 6, 2) := dt_Ref_isFirstWithId_c1 8
theorem d_Ref_isFirstWithId_53 : decode (jm_cod M_Ref_isFirstWithId) 53 = .ok (.iload_n 3, 1) := dt_Ref_isFirstWithId_c1 9
theorem d_Ref_isFirstWithId_54 : decode (jm_cod M_Ref_isFirstWithId) 54 = .ok (.ifCond .eq 21, 3) := dt_Ref_isFirstWithId_c1 10
theorem d_Ref_isFirstWithId_57 : decode (jm_cod M_Ref_isFirstWithId) 57 = .ok (.aload_n 0, 1) := dt_Ref_isFirstWithId_c1 11
theorem d_Ref_isFirstWithId_58 : decode (jm_cod M_Ref_isFirstWithId) 58 = .ok (.getfield 163, 3) := dt_Ref_isFirstWithId_c1 12
theorem d_Ref_isFirstWithId_61 : decode (jm_cod M_Ref_isFirstWithId) 61 = .ok (.aload_n 0, 1) := dt_Ref_isFirstWithId_c1 13
theorem d_Ref_isFirstWithId_62 : decode (jm_cod M_Ref_isFirstWithId) 62 = .ok (.getfield 157, 3) := dt_Ref_isFirstWithId_c1 14
theorem d_Ref_isFirstWithId_65 : decode (jm_cod M_Ref_isFirstWithId) 65 = .ok (.iconst 4, 1) := dt_Ref_isFirstWithId_c1 15
theorem d_Ref_isFirstWithId_66 : decode (jm_cod M_Ref_isFirstWithId) 66 = .ok (.iload_n 1, 1) := dt_Ref_isFirstWithId_c1 16
theorem d_Ref_isFirstWithId_67 : decode (jm_cod M_Ref_isFirstWithId) 67 = .ok (.imul, 1) := dt_Ref_isFirstWithId_c1 17
theorem d_Ref_isFirstWithId_68 : decode (jm_cod M_Ref_isFirstWithId) 68 = .ok (.iload_n 2, 1) := dt_Ref_isFirstWithId_c1 18
theorem d_Ref_isFirstWithId_69 : decode (jm_cod M_Ref_isFirstWithId) 69 = .ok (.iadd, 1) := dt_Ref_isFirstWithId_c1 19
theorem d_Ref_isFirstWithId_70 : decode (jm_cod M_Ref_isFirstWithId) 70 = .ok (.iaload, 1) := dt_Ref_isFirstWithId_c1 20
theorem d_Ref_isFirstWithId_71 : decode (jm_cod M_Ref_isFirstWithId) 71 = .ok (.laload, 1) := dt_Ref_isFirstWithId_c1 21
theorem d_Ref_isFirstWithId_72 : decode (jm_cod M_Ref_isFirstWithId) 72 = .ok (.goto 18, 3) := dt_Ref_isFirstWithId_c1 22
theorem d_Ref_isFirstWithId_75 : decode (jm_cod M_Ref_isFirstWithId) 75 = .ok (.aload_n 0, 1) := dt_Ref_isFirstWithId_c1 23
def tab_Ref_isFirstWithId_c2 : List (Nat × Instr × Nat) := [(76, .getfield 190, 3), (79, .aload_n 0, 1), (80, .getfield 184, 3), (83, .iconst 4, 1), (84, .iload_n 1, 1), (85, .imul, 1), (86, .iload_n 2, 1), (87, .iadd, 1), (88, .iaload, 1), (89, .laload, 1), (90, .lstore 8, 2), (92, .iload 4, 2), (94, .ifCond .eq 20, 3), (97, .lload 6, 2), (99, .invokestatic 396, 3), (102, .lload 8, 2), (104, .invokestatic 396, 3), (107, .if_icmp .eq 7, 3), (110, .iconst 1, 1), (111, .goto 4, 3), (114, .iconst 0, 1), (115, .istore 4, 2), (117, .iinc 5 1, 3), (120, .goto (-114), 3)]
theorem dt_Ref_isFirstWithId_c2 (i : Nat) : decode (jm_cod M_Ref_isFirstWithId) (tab_Ref_isFirstWithId_c2.getD i (76, .getfield 190, 3)).1 = .ok ((tab_Ref_isFirstWithId_c2.getD i (76, .getfield 190, 3)).2.1, (tab_Ref_isFirstWithId_c2.getD i (76, .getfield 190, 3)).2.2) := j_tab (by decide +kernel) i
theorem d_Ref_isFirstWithId_76 : decode (jm_cod M_Ref_isFirstWithId) 76 = .ok (.getfield 190, 3) := dt_Ref_isFirstWithId_c2 0
theorem d_Ref_isFirstWithId_79 : decode (jm_cod M_Ref_isFirstWithId) 79 = .ok (.aload_n 0, 1) := dt_Ref_isFirstWithId_c2 1
theorem d_Ref_isFirstWithId_80 : decode (jm_cod M_Ref_isFirstWithId) 80 = .ok (.getfield 184, 3) := dt_Ref_isFirstWithId_c2 2
theorem d_Ref_isFirstWithId_83 : decode (jm_cod M_Ref_isFirstWithId) 83 = .ok (.iconst 4, 1) := dt_Ref_isFirstWithId_c2 3
theorem d_Ref_isFirstWithId_84 : decode (jm_cod M_Ref_isFirstWithId) 84 = .ok (.iload_n 1, 1) := dt_Ref_isFirstWithId_c2 4
theorem d_Ref_isFirstWithId_85 : decode (jm_cod M_Ref_isFirstWithId) 85 = .ok (.imul, 1) := dt_Ref_isFirstWithId_c2 5
theorem d_Ref_isFirstWithId_86 : decode (jm_cod M_Ref_isFirstWithId) 86 = .ok (.iload_n 2, 1) := dt_Ref_isFirstWithId_c2 6
theorem d_Ref_isFirstWithId_87 : decode (jm_cod M_Ref_isFirstWithId) 87 = .ok (.iadd, 1) := dt_Ref_isFirstWithId_c2 7
theorem d_Ref_isFirstWithId_88 : decode (jm_cod M_Ref_isFirstWithId) 88 = .ok (.iaload, 1) := dt_Ref_isFirstWithId_c2 8
theorem d_Ref_isFirstWithId_89 : decode (jm_cod M_Ref_isFirstWithId) 89 = .ok (.laload, 1) := dt_Ref_isFirstWithId_c2 9
theorem d_Ref_isFirstWithId_90 : decode (jm_cod M_Ref_isFirstWithId) 90 = .ok (.lstore 8, 2) := dt_Ref_isFirstWithId_c2 10
theorem d_Ref_isFirstWithId_92 : decode (jm_cod M_Ref_isFirstWithId) 92 = .ok (.iload 4, 2) := dt_Ref_isFirstWithId_c2 11
theorem d_Ref_isFirstWithId_94 : decode (jm_cod M_Ref_isFirstWithId) 94 = .ok (.ifCond .eq 20, 3) := dt_Ref_isFirstWithId_c2 12
theorem d_Ref_isFirstWithId_97 : decode (jm_cod M_Ref_isFirstWithId) 97 = .ok (.lload 6, 2) := dt_Ref_isFirstWithId_c2 13
theorem d_Ref_isFirstWithId_99 : decode (jm_cod M_Ref_isFirstWithId) 99 = .ok (.invokestatic 396, 3) := dt_Ref_isFirstWithId_c2 14
theorem d_Ref_isFirstWithId_102 : decode (jm_cod M_Ref_isFirstWithId) 102 = .ok (.lload 8, 2) := dt_Ref_isFirstWithId_c2 15
theorem d_Ref_isFirstWithId_104 : decode (jm_cod M_Ref_isFirstWithId) 104 = .ok (.invokestatic 396, 3) := dt_Ref_isFirstWithId_c2 16
theorem d_Ref_isFirstWithId_107 : decode (jm_cod M_Ref_isFirstWithId) 107 = .ok (.if_icmp .eq 7, 3) := dt_Ref_isFirstWithId_c2 17
theorem d_Ref_isFirstWithId_110 : decode (jm_cod M_Ref_isFirstWithId) 110 = .ok (.iconst 1, 1) := dt_Ref_isFirstWithId_c2 18
theorem d_Ref_isFirstWithId_111 : decode (jm_cod M_Ref_isFirstWithId) 111 = .ok (.goto 4, 3) := dt_Ref_isFirstWithId_c2 19
theorem d_Ref_isFirstWithId_114 : decode (jm_cod M_Ref_isFirstWithId) 114 = .ok (.iconst 0, 1) := dt_Ref_isFirstWithId_c2 20
theorem d_Ref_isFirstWithId_115 : decode (jm_cod M_Ref_isFirstWithId) 115 = .ok (.istore 4, 2) := dt_Ref_isFirstWithId_c2 21
theorem d_Ref_isFirstWithId_117 : decode (jm_cod M_Ref_isFirstWithId) 117 = .ok (.iinc 5 1, 3) := dt_Ref_isFirstWithId_c2 22
theorem d_Ref_isFirstWithId_120 : decode (jm_cod M_Ref_isFirstWithId) 120 = .ok (.goto (-114), 3) := dt_Ref_isFirstWithId_c2 23
def tab_Ref_isFirstWithId_c3 : List (Nat × Instr × Nat) := [(123, .iload 4, 2), (125, .ireturn, 1)]
theorem dt_Ref_isFirstWithId_c3 (i : Nat) : decode (jm_cod M_Ref_isFirstWithId) (tab_Ref_isFirstWithId_c3.getD i (123, .iload 4, 2)).1 = .ok ((tab_Ref_isFirstWithId_c3.getD i (123, .iload 4, 2)).2.1, (tab_Ref_isFirstWithId_c3.getD i (123, .iload 4, 2)).2.2) := j_tab (by decide +kernel) i
theorem d_Ref_isFirstWithId_123 : decode (jm_cod M_Ref_isFirstWithId) 123 = .ok (.iload 4, 2) := dt_Ref_isFirstWithId_c3 0
theorem d_Ref_isFirstWithId_125 : decode (jm_cod M_Ref_isFirstWithId) 125 = .ok (.ireturn, 1) := dt_Ref_isFirstWithId_c3 1
def tab_Ref_idOf_c0 : List (Nat × Instr × Nat) := [(0, .lload_n 0, 1), (1, .ldc2_w 306, 3), (4, .land, 1), (5, .l2i, 1), (6, .ireturn, 1)]
theorem dt_Ref_idOf_c0 (i : Nat) : decode (jm_cod M_Ref_idOf) (tab_Ref_idOf_c0.getD i (0, .lload_n 0, 1)).1 = .ok ((tab_Ref_idOf_c0.getD i (0, .lload_n 0, 1)).2.1, (tab_Ref_idOf_c0.getD i (0, .lload_n 0, 1)).2.2) := j_tab (by decide +kernel) i
theorem d_Ref_idOf_0 : decode (jm_cod M_Ref_idOf) 0 = .ok (.lload_n 0, 1) := dt_Ref_idOf_c0 0
theorem d_Ref_idOf_1 : decode (jm_cod M_Ref_idOf) 1 = .ok (.ldc2_w 306, 3) := dt_Ref_idOf_c0 1
theorem d_Ref_idOf_4 : decode (jm_cod M_Ref_idOf) 4 = .ok (.land, 1) := dt_Ref_idOf_c0 2
theorem d_Ref_idOf_5 : decode (jm_cod M_Ref_idOf) 5 = .ok (.l2i, 1) := dt_Ref_idOf_c0 3
theorem d_Ref_idOf_6 : decode (jm_cod M_Ref_idOf) 6 = .ok (.ireturn, 1) := dt_Ref_idOf_c0 4
def tab_Ref_chooseRead_c0 : List (Nat × Instr × Nat) := [(0, .iconst (-1), 1), (1, .istore_n 2, 1), (2, .iconst (-1), 1), (3, .istore_n 3, 1), (4, .iconst (-1), 1), (5, .istore 4, 2), (7, .iconst (-1), 1), (8, .istore 5, 2), (10, .iconst 0, 1), (11, .istore 6, 2), (13, .iload 6, 2), (15, .aload_n 0, 1), (16, .getfield 181, 3), (19, .iload_n 1, 1), (20, .iaload, 1), (21, .if_icmp .ge 143, 3), (24, .aload_n 0, 1), (25, .getfield 184, 3), (28, .iconst 4, 1), (29, .iload_n 1, 1), (30, .imul, 1), (31, .iload 6, 2), (33, .iadd, 1), (34, .iaload, 1)]
theorem dt_Ref_chooseRead_c0 (i : Nat) : decode (jm_cod M_Ref_chooseRead) (tab_Ref_chooseRead_c0.getD i (0, .iconst (-1), 1)).1 = .ok ((tab_Ref_chooseRead_c0.getD i (0, .iconst (-1), 1)).2.1, (tab_Ref_chooseRead_c0.getD i (0, .iconst (-1), 1)).2.2) := j_tab (by decide +kernel) i
theorem d_Ref_chooseRead_0 : decode (jm_cod M_Ref_chooseRead) 0 = .ok (.iconst (-1), 1) := dt_Ref_chooseRead_c0 0
theorem d_Ref_chooseRead_1 : decode (jm_cod M_Ref_chooseRead) 1 = .ok (.istore_n 2, 1) := dt_Ref_chooseRead_c0 1
theorem d_Ref_chooseRead_2 : decode (jm_cod M_Ref_chooseRead) 2 = .ok (.iconst (-1), 1) := dt_Ref_chooseRead_c0 2
theorem d_Ref_chooseRead_3 : decode (jm_cod M_Ref_chooseRead) 3 = .ok (.istore_n 3, 1) := dt_Ref_chooseRead_c0 3
theorem d_Ref_chooseRead_4 : decode (jm_cod M_Ref_chooseRead) 4 = .ok (.iconst (-1), 1) := dt_Ref_chooseRead_c0 4
theorem d_Ref_chooseRead_5 : decode (jm_cod M_Ref_chooseRead) 5 = .ok (.istore 4, 2) := dt_Ref_chooseRead_c0 5
theorem d_Ref_chooseRead_7 : decode (jm_cod M_Ref_chooseRead) 7 = .ok (.iconst (-1), 1) := dt_Ref_chooseRead_c0 6
theorem d_Ref_chooseRead_8 : decode (jm_cod M_Ref_chooseRead) 8 = .ok (.istore 5, 2) := dt_Ref_chooseRead_c0 7
theorem d_Ref_chooseRead_10 : decode (jm_cod M_Ref_chooseRead) 10 = .ok (.iconst 0, 1) := dt_Ref_chooseRead_c0 8
theorem d_Ref_chooseRead_11 : decode (jm_cod M_Ref_chooseRead) 11 = .ok (.istore 6, 2) := dt_Ref_chooseRead_c0 9
theorem d_Ref_chooseRead_13 : decode (jm_cod M_Ref_chooseRead) 13 = .ok (.iload 6, 2) := dt_Ref_chooseRead_c0 10
theorem d_Ref_chooseRead_15 : decode (jm_cod M_Ref_chooseRead) 15 = .ok (.aload_n 0, 1) := dt_Ref_chooseRead_c0 11
theorem d_Ref_chooseRead_16 : decode (jm_cod M_Ref_chooseRead) 16 = .ok (.getfield 181, 3) := dt_Ref_chooseRead_c0 12
theorem d_Ref_chooseRead_19 : decode (jm_cod M_Ref_chooseRead) 19 = .ok (.iload_n 1, 1) := dt_Ref_chooseRead_c0 13
theorem d_Ref_chooseRead_20 : decode (jm_cod M_Ref_chooseRead) 20 = .ok (.iaload, 1) := dt_Ref_chooseRead_c0 14
theorem d_Ref_chooseRead_21 : decode (jm_cod M_Ref_chooseRead) 21 = .ok (.if_icmp .ge 143, 3) := dt_Ref_chooseRead_c0 15
theorem d_Ref_chooseRead_24 : decode (jm_cod M_Ref_chooseRead) 24 = .ok (.aload_n 0, 1) := dt_Ref_chooseRead_c0 16
theorem d_Ref_chooseRead_25 : decode (jm_cod M_Ref_chooseRead) 25 = .ok (.getfield 184, 3) := dt_Ref_chooseRead_c0 17
theorem d_Ref_chooseRead_28 : decode (jm_cod M_Ref_chooseRead) 28 = .ok (.iconst 4, 1) := dt_Ref_chooseRead_c0 18
theorem d_Ref_chooseRead_29 : decode (jm_cod M_Ref_chooseRead) 29 = .ok (.iload_n 1, 1) := dt_Ref_chooseRead_c0 19
theorem d_Ref_chooseRead_30 : decode (jm_cod M_Ref_chooseRead) 30 = .ok (.imul, 1) := dt_Ref_chooseRead_c0 20
theorem d_Ref_chooseRead_31 : decode (jm_cod M_Ref_chooseRead) 31 = .ok (.iload 6, 2) := dt_Ref_chooseRead_c0 21
theorem d_Ref_chooseRead_33 : decode (jm_cod M_Ref_chooseRead) 33 = .ok (.iadd, 1) := dt_Ref_chooseRead_c0 22
theorem d_Ref_chooseRead_34 : decode (jm_cod M_Ref_chooseRead) 34 = .ok (.iaload, 1) := dt_Ref_chooseRead_c0 23
def tab_Ref_chooseRead_c1 : List (Nat × Instr × Nat) := [(35, .istore 7, 2), (37, .aload_n 0, 1), (38, .iload 7, 2), (40, .iload_n 1, 1), (41, .invokevirtual 406, 3), (44, .ifCond .eq 35, 3), (47, .aload_n 0, 1), (48, .getfield 26, 3), (51, .iload_n 1, 1), (52, .iaload, 1), (53, .ifCond .ne 11, 3), (56, .iload 6, 2), (58, .ifCond .ne 21, 3), (61, .goto 14, 3), (64, .aload_n 0, 1), (65, .iload_n 1, 1), (66, .iload 6, 2), (68, .iconst 0, 1), (69, .invokevirtual 402, 3), (72, .ifCond .eq 7, 3), (75, .iconst 1, 1), (76, .goto 4, 3), (79, .iconst 0, 1), (80, .istore 8, 2)]
theorem dt_Ref_chooseRead_c1 (i : Nat) : decode (jm_cod M_Ref_chooseRead) (tab_Ref_chooseRead_c1.getD i (35, .istore 7, 2)).1 = .ok ((tab_Ref_chooseRead_c1.getD i (35, .istore 7, 2)).2.1, (tab_Ref_chooseRead_c1.getD i (35, .istore 7, 2)).2.2) := j_tab (by decide +kernel) i
theorem d_Ref_chooseRead_35 : decode (jm_cod M_Ref_chooseRead) 35 = .ok (.istore 7, 2) := dt_Ref_chooseRead_c1 0
theorem d_Ref_chooseRead_37 : decode (jm_cod M_Ref_chooseRead) 37 = .ok (.aload_n 0, 1) := dt_Ref_chooseRead_c1 1
theorem d_Ref_chooseRead_38 : decode (jm_cod M_Ref_chooseRead) 38 = .ok (.iload 7, 2) := dt_Ref_chooseRead_c1 2
theorem d_Ref_chooseRead_40 : decode (jm_cod M_Ref_chooseRead) 40 = .ok (.iload_n 1, 1) := dt_Ref_chooseRead_c1 3
theorem d_Ref_chooseRead_41 : decode (jm_cod M_Ref_chooseRead) 41 = .ok (.invokevirtual 406, 3) := dt_Ref_chooseRead_c1 4
theorem d_Ref_chooseRead_44 : decode (jm_cod M_Ref_chooseRead) 44 = .ok (.ifCond .eq 35, 3) := dt_Ref_chooseRead_c1 5
theorem d_Ref_chooseRead_47 : decode (jm_cod M_Ref_chooseRead) 47 = .ok (.aload_n 0, 1) := dt_Ref_chooseRead_c1 6
theorem d_Ref_chooseRead_48 : decode (jm_cod M_Ref_chooseRead) 48 = .ok (.getfield 26, 3) := dt_Ref_chooseRead_c1 7
theorem d_Ref_chooseRead_51 : decode (jm_cod M_Ref_chooseRead) 51 = .ok (.iload_n 1, 1) := dt_Ref_chooseRead_c1 8
theorem d_Ref_chooseRead_52 : decode (jm_cod M_Ref_chooseRead) 52 = .ok (.iaload, 1) := dt_Ref_chooseRead_c1 9
theorem d_Ref_chooseRead_53 : decode (jm_cod M_Ref_chooseRead) 53 = .ok (.ifCond .ne 11, 3) := dt_Ref_chooseRead_c1 10
theorem d_Ref_chooseRead_56 : decode (jm_cod M_Ref_chooseRead) 56 = .ok (.iload 6, 2) := dt_Ref_chooseRead_c1 11
theorem d_Ref_chooseRead_58 : decode (jm_cod M_Ref_chooseRead) 58 = .ok (.ifCond .ne 21, 3) := dt_Ref_chooseRead_c1 12
theorem d_Ref_chooseRead_61 : decode (jm_cod M_Ref_chooseRead) 61 = .ok (.goto 14, 3) := dt_Ref_chooseRead_c1 13
theorem d_Ref_chooseRead_64 : decode (jm_cod M_Ref_chooseRead) 64 = .ok (.aload_n 0, 1) := dt_Ref_chooseRead_c1 14
theorem d_Ref_chooseRead_65 : decode (jm_cod M_Ref_chooseRead) 65 = .ok (.iload_n 1, 1) := dt_Ref_chooseRead_c1 15
theorem d_Ref_chooseRead_66 : decode (jm_cod M_Ref_chooseRead) 66 = .ok (.iload 6, 2) := dt_Ref_chooseRead_c1 16
theorem d_Ref_chooseRead_68 : decode (jm_cod M_Ref_chooseRead) 68 = .ok (.iconst 0, 1) := dt_Ref_chooseRead_c1 17
theorem d_Ref_chooseRead_69 : decode (jm_cod M_Ref_chooseRead) 69 = .ok (.invokevirtual 402, 3) := dt_Ref_chooseRead_c1 18
theorem d_Ref_chooseRead_72 : decode (jm_cod M_Ref_chooseRead) 72 = .ok (.ifCond .eq 7, 3) := dt_Ref_chooseRead_c1 19
theorem d_Ref_chooseRead_75 : decode (jm_cod M_Ref_chooseRead) 75 = .ok (.iconst 1, 1) := dt_Ref_chooseRead_c1 20
theorem d_Ref_chooseRead_76 : decode (jm_cod M_Ref_chooseRead) 76 = .ok (.goto 4, 3) := dt_Ref_chooseRead_c1 21
theorem d_Ref_chooseRead_79 : decode (jm_cod M_Ref_chooseRead) 79 = .ok (.iconst 0, 1) := dt_Ref_chooseRead_c1 22
theorem d_Ref_chooseRead_80 : decode (jm_cod M_Ref_chooseRead) 80 = .ok (.istore 8, 2) := dt_Ref_chooseRead_c1 23
def tab_Ref_chooseRead_c2 : List (Nat × Instr × Nat) := [(82, .iload 8, 2), (84, .ifCond .eq 74, 3), (87, .iload 7, 2), (89, .istore_n 2, 1), (90, .iload 4, 2), (92, .iconst (-1), 1), (93, .if_icmp .ne 8, 3), (96, .iload 7, 2), (98, .goto 5, 3), (101, .iload 4, 2), (103, .istore 4, 2), (105, .iload_n 3, 1), (106, .iconst (-1), 1), (107, .if_icmp .ne 18, 3), (110, .aload_n 0, 1), (111, .getfield 193, 3), (114, .iload 7, 2), (116, .iaload, 1), (117, .ifCond .le 8, 3), (120, .iload 7, 2), (122, .goto 4, 3), (125, .iload_n 3, 1), (126, .istore_n 3, 1), (127, .iload 5, 2)]
theorem dt_Ref_chooseRead_c2 (i : Nat) : decode (jm_cod M_Ref_chooseRead) (tab_Ref_chooseRead_c2.getD i (82, .iload 8, 2)).1 = .ok ((tab_Ref_chooseRead_c2.getD i (82, .iload 8, 2)).2.1, (tab_Ref_chooseRead_c2.getD i (82, .iload 8, 2)).2.2) := j_tab (by decide +kernel) i
theorem d_Ref_chooseRead_82 : decode (jm_cod M_Ref_chooseRead) 82 = .ok (.iload 8, 2) := dt_Ref_chooseRead_c2 0
theorem d_Ref_chooseRead_84 : decode (jm_cod M_Ref_chooseRead) 84 = .ok (.ifCond .eq 74, 3) := dt_Ref_chooseRead_c2 1
theorem d_Ref_chooseRead_87 : decode (jm_cod M_Ref_chooseRead) 87 = .ok (.iload 7, 2) := dt_Ref_chooseRead_c2 2
theorem d_Ref_chooseRead_89 : decode (jm_cod M_Ref_chooseRead) 89 = .ok (.istore_n 2, 1) := dt_Ref_chooseRead_c2 3
theorem d_Ref_chooseRead_90 : decode (jm_cod M_Ref_chooseRead) 90 = .ok (.iload 4, 2) := dt_Ref_chooseRead_c2 4
theorem d_Ref_chooseRead_92 : decode (jm_cod M_Ref_chooseRead) 92 = .ok (.iconst (-1), 1) := dt_Ref_chooseRead_c2 5
theorem d_Ref_chooseRead_93 : decode (jm_cod M_Ref_chooseRead) 93 = .ok (.if_icmp .ne 8, 3) := dt_Ref_chooseRead_c2 6
theorem d_Ref_chooseRead_96 : decode (jm_cod M_Ref_chooseRead) 96 = .ok (.iload 7, 2) := dt_Ref_chooseRead_c2 7
theorem d_Ref_chooseRead_98 : decode (jm_cod M_Ref_chooseRead) 98 = .ok (.goto 5, 3) := dt_Ref_chooseRead_c2 8
theorem d_Ref_chooseRead_101 : decode (jm_cod M_Ref_chooseRead) 101 = .ok (.iload 4, 2) := dt_Ref_chooseRead_c2 9
theorem d_Ref_chooseRead_103 : decode (jm_cod M_Ref_chooseRead) 103 = .ok (.istore 4, 2) := dt_Ref_chooseRead_c2 10
theorem d_Ref_chooseRead_105 : decode (jm_cod M_Ref_chooseRead) 105 = .ok (.iload_n 3, 1) := dt_Ref_chooseRead_c2 11
theorem d_Ref_chooseRead_106 : decode (jm_cod M_Ref_chooseRead) 106 = .ok (.iconst (-1), 1) := dt_Ref_chooseRead_c2 12
theorem d_Ref_chooseRead_107 : decode (jm_cod M_Ref_chooseRead) 107 = .ok (.if_icmp .ne 18, 3) := dt_Ref_chooseRead_c2 13
theorem d_Ref_chooseRead_110 : decode (jm_cod M_Ref_chooseRead) 110 = .ok (.aload_n 0, 1) := dt_Ref_chooseRead_c2 14
theorem d_Ref_chooseRead_111 : decode (jm_cod M_Ref_chooseRead) 111 = .ok (.getfield 193, 3) := dt_Ref_chooseRead_c2 15
theorem d_Ref_chooseRead_114 : decode (jm_cod M_Ref_chooseRead) 114 = .ok (.iload 7, 2) := dt_Ref_chooseRead_c2 16
theorem d_Ref_chooseRead_116 : decode (jm_cod M_Ref_chooseRead) 116 = .ok (.iaload, 1) := dt_Ref_chooseRead_c2 17
theorem d_Ref_chooseRead_117 : decode (jm_cod M_Ref_chooseRead) 117 = .ok (.ifCond .le 8, 3) := dt_Ref_chooseRead_c2 18
theorem d_Ref_chooseRead_120 : decode (jm_cod M_Ref_chooseRead) 120 = .ok (.iload 7, 2) := dt_Ref_chooseRead_c2 19
theorem d_Ref_chooseRead_122 : decode (jm_cod M_Ref_chooseRead) 122 = .ok (.goto 4, 3) := dt_Ref_chooseRead_c2 20
theorem d_Ref_chooseRead_125 : decode (jm_cod M_Ref_chooseRead) 125 = .ok (.iload_n 3, 1) := dt_Ref_chooseRead_c2 21
theorem d_Ref_chooseRead_126 : decode (jm_cod M_Ref_chooseRead) 126 = .ok (.istore_n 3, 1) := dt_Ref_chooseRead_c2 22
theorem d_Ref_chooseRead_127 : decode (jm_cod M_Ref_chooseRead) 127 = .ok (.iload 5, 2) := dt_Ref_chooseRead_c2 23
def tab_Ref_chooseRead_c3 : List (Nat × Instr × Nat) := [(129, .iconst (-1), 1), (130, .if_icmp .ne 24, 3), (133, .aload_n 0, 1), (134, .getfield 199, 3), (137, .iload 7, 2), (139, .iaload, 1), (140, .aload_n 0, 1), (141, .getfield 211, 3), (144, .iload_n 1, 1), (145, .iaload, 1), (146, .if_icmp .le 8, 3), (149, .iload 7, 2), (151, .goto 5, 3), (154, .iload 5, 2), (156, .istore 5, 2), (158, .iinc 6 1, 3), (161, .goto (-148), 3), (164, .aload_n 0, 1), (165, .getfield 26, 3), (168, .iload_n 1, 1), (169, .iaload, 1), (170, .iconst 2, 1), (171, .if_icmp .ne 19, 3), (174, .iload 5, 2)]
theorem dt_Ref_chooseRead_c3 (i : Nat) : decode (jm_cod M_Ref_chooseRead) (tab_Ref_chooseRead_c3.getD i (129, .iconst (-1), 1)).1 = .ok ((tab_Ref_chooseRead_c3.getD i (129, .iconst (-1), 1)).2.1, (tab_Ref_chooseRead_c3.getD i (129, .iconst (-1), 1)).2.2) := j_tab (by decide +kernel) i
theorem d_Ref_chooseRead_129 : decode (jm_cod M_Ref_chooseRead) 129 = .ok (.iconst (-1), 1) := dt_Ref_chooseRead_c3 0
theorem d_Ref_chooseRead_130 : decode (jm_cod M_Ref_chooseRead) 130 = .ok (.if_icmp .ne 24, 3) := dt_Ref_chooseRead_c3 1
theorem d_Ref_chooseRead_133 : decode (jm_cod M_Ref_chooseRead) 133 = .ok (.aload_n 0, 1) := dt_Ref_chooseRead_c3 2
theorem d_Ref_chooseRead_134 : decode (jm_cod M_Ref_chooseRead) 134 = .ok (.getfield 199, 3) := dt_Ref_chooseRead_c3 3
theorem d_Ref_chooseRead_137 : decode (jm_cod M_Ref_chooseRead) 137 = .ok (.iload 7, 2) := dt_Ref_chooseRead_c3 4
theorem d_Ref_chooseRead_139 : decode (jm_cod M_Ref_chooseRead) 139 = .ok (.iaload, 1) := dt_Ref_chooseRead_c3 5
theorem d_Ref_chooseRead_140 : decode (jm_cod M_Ref_chooseRead) 140 = .ok (.aload_n 0, 1) := dt_Ref_chooseRead_c3 6
theorem d_Ref_chooseRead_141 : decode (jm_cod M_Ref_chooseRead) 141 = .ok (.getfield 211, 3) := dt_Ref_chooseRead_c3 7
theorem d_Ref_chooseRead_144 : decode (jm_cod M_Ref_chooseRead) 144 = .ok (.iload_n 1, 1) := dt_Ref_chooseRead_c3 8
theorem d_Ref_chooseRead_145 : decode (jm_cod M_Ref_chooseRead) 145 = .ok (.iaload, 1) := dt_Ref_chooseRead_c3 9
theorem d_Ref_chooseRead_146 : decode (jm_cod M_Ref_chooseRead) 146 = .ok (.if_icmp .le 8, 3) := dt_Ref_chooseRead_c3 10
theorem d_Ref_chooseRead_149 : decode (jm_cod M_Ref_chooseRead) 149 = .ok (.iload 7, 2) := dt_Ref_chooseRead_c3 11
theorem d_Ref_chooseRead_151 : decode (jm_cod M_Ref_chooseRead) 151 = .ok (.goto 5, 3) := dt_Ref_chooseRead_c3 12
theorem d_Ref_chooseRead_154 : decode (jm_cod M_Ref_chooseRead) 154 = .ok (.iload 5, 2) := dt_Ref_chooseRead_c3 13
theorem d_Ref_chooseRead_156 : decode (jm_cod M_Ref_chooseRead) 156 = .ok (.istore 5, 2) := dt_Ref_chooseRead_c3 14
theorem d_Ref_chooseRead_158 : decode (jm_cod M_Ref_chooseRead) 158 = .ok (.iinc 6 1, 3) := dt_Ref_chooseRead_c3 15
theorem d_Ref_chooseRead_161 : decode (jm_cod M_Ref_chooseRead) 161 = .ok (.goto (-148), 3) := dt_Ref_chooseRead_c3 16
theorem d_Ref_chooseRead_164 : decode (jm_cod M_Ref_chooseRead) 164 = .ok (.aload_n 0, 1) := dt_Ref_chooseRead_c3 17
theorem d_Ref_chooseRead_165 : decode (jm_cod M_Ref_chooseRead) 165 = .ok (.getfield 26, 3) := dt_Ref_chooseRead_c3 18
theorem d_Ref_chooseRead_168 : decode (jm_cod M_Ref_chooseRead) 168 = .ok (.iload_n 1, 1) := dt_Ref_chooseRead_c3 19
theorem d_Ref_chooseRead_169 : decode (jm_cod M_Ref_chooseRead) 169 = .ok (.iaload, 1) := dt_Ref_chooseRead_c3 20
theorem d_Ref_chooseRead_170 : decode (jm_cod M_Ref_chooseRead) 170 = .ok (.iconst 2, 1) := dt_Ref_chooseRead_c3 21
theorem d_Ref_chooseRead_171 : decode (jm_cod M_Ref_chooseRead) 171 = .ok (.if_icmp .ne 19, 3) := dt_Ref_chooseRead_c3 22
theorem d_Ref_chooseRead_174 : decode (jm_cod M_Ref_chooseRead) 174 = .ok (.iload 5, 2) := dt_Ref_chooseRead_c3 23
def tab_Ref_chooseRead_c4 : List (Nat × Instr × Nat) := [(176, .iconst (-1), 1), (177, .if_icmp .eq 8, 3), (180, .iload 5, 2), (182, .goto 28, 3), (185, .iload 4, 2), (187, .goto 23, 3), (190, .aload_n 0, 1), (191, .getfield 26, 3), (194, .iload_n 1, 1), (195, .iaload, 1), (196, .iconst 1, 1), (197, .if_icmp .ne 12, 3), (200, .iload_n 3, 1), (201, .iconst (-1), 1), (202, .if_icmp .eq 7, 3), (205, .iload_n 3, 1), (206, .goto 4, 3), (209, .iload_n 2, 1), (210, .ireturn, 1)]
theorem dt_Ref_chooseRead_c4 (i : Nat) : decode (jm_cod M_Ref_chooseRead) (tab_Ref_chooseRead_c4.getD i (176, .iconst (-1), 1)).1 = .ok ((tab_Ref_chooseRead_c4.getD i (176, .iconst (-1), 1)).2.1, (tab_Ref_chooseRead_c4.getD i (176, .iconst (-1), 1)).2.2) := j_tab (by decide +kernel) i
theorem d_Ref_chooseRead_176 : decode (jm_cod M_Ref_chooseRead) 176 = .ok (.iconst (-1), 1) := dt_Ref_chooseRead_c4 0
theorem d_Ref_chooseRead_177 : decode (jm_cod M_Ref_chooseRead) 177 = .ok (.if_icmp .eq 8, 3) := dt_Ref_chooseRead_c4 1
theorem d_Ref_chooseRead_180 : decode (jm_cod M_Ref_chooseRead) 180 = .ok (.iload 5, 2) := dt_Ref_chooseRead_c4 2
theorem d_Ref_chooseRead_182 : decode (jm_cod M_Ref_chooseRead) 182 = .ok (.goto 28, 3) := dt_Ref_chooseRead_c4 3
theorem d_Ref_chooseRead_185 : decode (jm_cod M_Ref_chooseRead) 185 = .ok (.iload 4, 2) := dt_Ref_chooseRead_c4 4
theorem d_Ref_chooseRead_187 : decode (jm_cod M_Ref_chooseRead) 187 = .ok (.goto 23, 3) := dt_Ref_chooseRead_c4 5
theorem d_Ref_chooseRead_190 : decode (jm_cod M_Ref_chooseRead) 190 = .ok (.aload_n 0, 1) := dt_Ref_chooseRead_c4 6
theorem d_Ref_chooseRead_191 : decode (jm_cod M_Ref_chooseRead) 191 = .ok (.getfield 26, 3) := dt_Ref_chooseRead_c4 7
theorem d_Ref_chooseRead_194 : decode (jm_cod M_Ref_chooseRead) 194 = .ok (.iload_n 1, 1) := dt_Ref_chooseRead_c4 8
theorem d_Ref_chooseRead_195 : decode (jm_cod M_Ref_chooseRead) 195 = .ok (.iaload, 1) := dt_Ref_chooseRead_c4 9
theorem d_Ref_chooseRead_196 : decode (jm_cod M_Ref_chooseRead) 196 = .ok (.iconst 1, 1) := dt_Ref_chooseRead_c4 10
theorem d_Ref_chooseRead_197 : decode (jm_cod M_Ref_chooseRead) 197 = .ok (.if_icmp .ne 12, 3) := dt_Ref_chooseRead_c4 11
theorem d_Ref_chooseRead_200 : decode (jm_cod M_Ref_chooseRead) 200 = .ok (.iload_n 3, 1) := dt_Ref_chooseRead_c4 12
theorem d_Ref_chooseRead_201 : decode (jm_cod M_Ref_chooseRead) 201 = .ok (.iconst (-1), 1) := dt_Ref_chooseRead_c4 13
theorem d_Ref_chooseRead_202 : decode (jm_cod M_Ref_chooseRead) 202 = .ok (.if_icmp .eq 7, 3) := dt_Ref_chooseRead_c4 14
theorem d_Ref_chooseRead_205 : decode (jm_cod M_Ref_chooseRead) 205 = .ok (.iload_n 3, 1) := dt_Ref_chooseRead_c4 15
theorem d_Ref_chooseRead_206 : decode (jm_cod M_Ref_chooseRead) 206 = .ok (.goto 4, 3) := dt_Ref_chooseRead_c4 16
theorem d_Ref_chooseRead_209 : decode (jm_cod M_Ref_chooseRead) 209 = .ok (.iload_n 2, 1) := dt_Ref_chooseRead_c4 17
theorem d_Ref_chooseRead_210 : decode (jm_cod M_Ref_chooseRead) 210 = .ok (.ireturn, 1) := dt_Ref_chooseRead_c4 18
def tab_Ref_isReadRipe_c0 : List (Nat × Instr × Nat) := [(0, .aload_n 0, 1), (1, .getfield 348, 3), (4, .aload_n 0, 1), (5, .getfield 196, 3), (8, .iload_n 1, 1), (9, .iaload, 1), (10, .aload_n 0, 1), (11, .getfield 23, 3), (14, .iload_n 2, 1), (15, .iaload, 1), (16, .iadd, 1), (17, .iconst 1, 1), (18, .iadd, 1), (19, .if_icmp .lt 7, 3), (22, .iconst 1, 1), (23, .goto 4, 3), (26, .iconst 0, 1), (27, .ireturn, 1)]
theorem dt_Ref_isReadRipe_c0 (i : Nat) : decode (jm_cod M_Ref_isReadRipe) (tab_Ref_isReadRipe_c0.getD i (0, .aload_n 0, 1)).1 = .ok ((tab_Ref_isReadRipe_c0.getD i (0, .aload_n 0, 1)).2.1, (tab_Ref_isReadRipe_c0.getD i (0, .aload_n 0, 1)).2.2) := j_tab (by decide +kernel) i
theorem d_Ref_isReadRipe_0 : decode (jm_cod M_Ref_isReadRipe) 0 = .ok (.aload_n 0, 1) := dt_Ref_isReadRipe_c0 0
theorem d_Ref_isReadRipe_1 : decode (jm_cod M_Ref_isReadRipe) 1 = .ok (.getfield 348, 3) := dt_Ref_isReadRipe_c0 1
theorem d_Ref_isReadRipe_4 : decode (jm_cod M_Ref_isReadRipe) 4 = .ok (.aload_n 0, 1) := dt_Ref_isReadRipe_c0 2
theorem d_Ref_isReadRipe_5 : decode (jm_cod M_Ref_isReadRipe) 5 = .ok (.getfield 196, 3) := dt_Ref_isReadRipe_c0 3
theorem d_Ref_isReadRipe_8 : decode (jm_cod M_Ref_isReadRipe) 8 = .ok (.iload_n 1, 1) := dt_Ref_isReadRipe_c0 4
theorem d_Ref_isReadRipe_9 : decode (jm_cod M_Ref_isReadRipe) 9 = .ok (.iaload, 1) := dt_Ref_isReadRipe_c0 5
theorem d_Ref_isReadRipe_10 : decode (jm_cod M_Ref_isReadRipe) 10 = .ok (.aload_n 0, 1) := dt_Ref_isReadRipe_c0 6
theorem d_Ref_isReadRipe_11 : decode (jm_cod M_Ref_isReadRipe) 11 = .ok (.getfield 23, 3) := dt_Ref_isReadRipe_c0 7
theorem d_Ref_isReadRipe_14 : decode (jm_cod M_Ref_isReadRipe) 14 = .ok (.iload_n 2, 1) := dt_Ref_isReadRipe_c0 8
theorem d_Ref_isReadRipe_15 : decode (jm_cod M_Ref_isReadRipe) 15 = .ok (.iaload, 1) := dt_Ref_isReadRipe_c0 9
theorem d_Ref_isReadRipe_16 : decode (jm_cod M_Ref_isReadRipe) 16 = .ok (.iadd, 1) := dt_Ref_isReadRipe_c0 10
theorem d_Ref_isReadRipe_17 : decode (jm_cod M_Ref_isReadRipe) 17 = .ok (.iconst 1, 1) := dt_Ref_isReadRipe_c0 11
theorem d_Ref_isReadRipe_18 : decode (jm_cod M_Ref_isReadRipe) 18 = .ok (.iadd, 1) := dt_Ref_isReadRipe_c0 12
theorem d_Ref_isReadRipe_19 : decode (jm_cod M_Ref_isReadRipe) 19 = .ok (.if_icmp .lt 7, 3) := dt_Ref_isReadRipe_c0 13
theorem d_Ref_isReadRipe_22 : decode (jm_cod M_Ref_isReadRipe) 22 = .ok (.iconst 1, 1) := dt_Ref_isReadRipe_c0 14
theorem d_Ref_isReadRipe_23 : decode (jm_cod M_Ref_isReadRipe) 23 = .ok (.goto 4, 3) := dt_Ref_isReadRipe_c0 15
theorem d_Ref_isReadRipe_26 : decode (jm_cod M_Ref_isReadRipe) 26 = .ok (.iconst 0, 1) := dt_Ref_isReadRipe_c0 16
theorem d_Ref_isReadRipe_27 : decode (jm_cod M_Ref_isReadRipe) 27 = .ok (.ireturn, 1) := dt_Ref_isReadRipe_c0 17
def tab_Ref_isPort_c0 : List (Nat × Instr × Nat) := [(0, .iload_n 1, 1), (1, .iconst 4, 1), (2, .if_icmp .ge 19, 3), (5, .iload_n 1, 1), (6, .aload_n 0, 1), (7, .getfield 290, 3), (10, .if_icmp .ge 7, 3), (13, .iconst 1, 1), (14, .goto 22, 3), (17, .iconst 0, 1), (18, .goto 18, 3), (21, .iload_n 1, 1), (22, .iconst 4, 1), (23, .isub, 1), (24, .aload_n 0, 1), (25, .getfield 294, 3), (28, .if_icmp .ge 7, 3), (31, .iconst 1, 1), (32, .goto 4, 3), (35, .iconst 0, 1), (36, .ireturn, 1)]
theorem dt_Ref_isPort_c0 (i : Nat) : decode (jm_cod M_Ref_isPort) (tab_Ref_isPort_c0.getD i (0, .iload_n 1, 1)).1 = .ok ((tab_Ref_isPort_c0.getD i (0, .iload_n 1, 1)).2.1, (tab_Ref_isPort_c0.getD i (0, .iload_n 1, 1)).2.2) := j_tab (by decide +kernel) i
theorem d_Ref_isPort_0 : decode (jm_cod M_Ref_isPort) 0 = .ok (.iload_n 1, 1) := dt_Ref_isPort_c0 0
theorem d_Ref_isPort_1 : decode (jm_cod M_Ref_isPort) 1 = .ok (.iconst 4, 1) := dt_Ref_isPort_c0 1
theorem d_Ref_isPort_2 : decode (jm_cod M_Ref_isPort) 2 = .ok (.if_icmp .ge 19, 3) := dt_Ref_isPort_c0 2
theorem d_Ref_isPort_5 : decode (jm_cod M_Ref_isPort) 5 = .ok (.iload_n 1, 1) := dt_Ref_isPort_c0 3
theorem d_Ref_isPort_6 : decode (jm_cod M_Ref_isPort) 6 = .ok (.aload_n 0, 1) := dt_Ref_isPort_c0 4
theorem d_Ref_isPort_7 : decode (jm_cod M_Ref_isPort) 7 = .ok (.getfield 290, 3) := dt_Ref_isPort_c0 5
theorem d_Ref_isPort_10 : decode (jm_cod M_Ref_isPort) 10 = .ok (.if_icmp .ge 7, 3) := dt_Ref_isPort_c0 6
theorem d_Ref_isPort_13 : decode (jm_cod M_Ref_isPort) 13 = .ok (.iconst 1, 1) := dt_Ref_isPort_c0 7
theorem d_Ref_isPort_14 : decode (jm_cod M_Ref_isPort) 14 = .ok (.goto 22, 3) := dt_Ref_isPort_c0 8
theorem d_Ref_isPort_17 : decode (jm_cod M_Ref_isPort) 17 = .ok (.iconst 0, 1) := dt_Ref_isPort_c0 9
theorem d_Ref_isPort_18 : decode (jm_cod M_Ref_isPort) 18 = .ok (.goto 18, 3) := dt_Ref_isPort_c0 10
theorem d_Ref_isPort_21 : decode (jm_cod M_Ref_isPort) 21 = .ok (.iload_n 1, 1) := dt_Ref_isPort_c0 11
theorem d_Ref_isPort_22 : decode (jm_cod M_Ref_isPort) 22 = .ok (.iconst 4, 1) := dt_Ref_isPort_c0 12
theorem d_Ref_isPort_23 : decode (jm_cod M_Ref_isPort) 23 = .ok (.isub, 1) := dt_Ref_isPort_c0 13
theorem d_Ref_isPort_24 : decode (jm_cod M_Ref_isPort) 24 = .ok (.aload_n 0, 1) := dt_Ref_isPort_c0 14
theorem d_Ref_isPort_25 : decode (jm_cod M_Ref_isPort) 25 = .ok (.getfield 294, 3) := dt_Ref_isPort_c0 15
theorem d_Ref_isPort_28 : decode (jm_cod M_Ref_isPort) 28 = .ok (.if_icmp .ge 7, 3) := dt_Ref_isPort_c0 16
theorem d_Ref_isPort_31 : decode (jm_cod M_Ref_isPort) 31 = .ok (.iconst 1, 1) := dt_Ref_isPort_c0 17
theorem d_Ref_isPort_32 : decode (jm_cod M_Ref_isPort) 32 = .ok (.goto 4, 3) := dt_Ref_isPort_c0 18
theorem d_Ref_isPort_35 : decode (jm_cod M_Ref_isPort) 35 = .ok (.iconst 0, 1) := dt_Ref_isPort_c0 19
theorem d_Ref_isPort_36 : decode (jm_cod M_Ref_isPort) 36 = .ok (.ireturn, 1) := dt_Ref_isPort_c0 20
def tab_Ref_watch_c0 : List (Nat × Instr × Nat) := [(0, .iconst 0, 1), (1, .istore 4, 2), (3, .iload 4, 2), (5, .iconst 5, 1), (6, .if_icmp .ge 104, 3), (9, .aload_n 0, 1), (10, .getfield 238, 3), (13, .iload_n 1, 1), (14, .iaload, 1), (15, .ifCond .ne 95, 3), (18, .iload_n 3, 1), (19, .ifCond .eq 15, 3), (22, .aload_n 0, 1), (23, .getfield 274, 3), (26, .iload_n 2, 1), (27, .iload 4, 2), (29, .iadd, 1), (30, .baload, 1), (31, .goto 12, 3), (34, .aload_n 0, 1), (35, .getfield 88, 3), (38, .iload_n 2, 1), (39, .iload 4, 2), (41, .iadd, 1)]
theorem dt_Ref_watch_c0 (i : Nat) : decode (jm_cod M_Ref_watch) (tab_Ref_watch_c0.getD i (0, .iconst 0, 1)).1 = .ok ((tab_Ref_watch_c0.getD i (0, .iconst 0, 1)).2.1, (tab_Ref_watch_c0.getD i (0, .iconst 0, 1)).2.2) := j_tab (by decide +kernel) i
theorem d_Ref_watch_0 : decode (jm_cod M_Ref_watch) 0 = .ok (.iconst 0, 1) := dt_Ref_watch_c0 0
theorem d_Ref_watch_1 : decode (jm_cod M_Ref_watch) 1 = .ok (.istore 4, 2) := dt_Ref_watch_c0 1
theorem d_Ref_watch_3 : decode (jm_cod M_Ref_watch) 3 = .ok (.iload 4, 2) := dt_Ref_watch_c0 2
theorem d_Ref_watch_5 : decode (jm_cod M_Ref_watch) 5 = .ok (.iconst 5, 1) := dt_Ref_watch_c0 3
theorem d_Ref_watch_6 : decode (jm_cod M_Ref_watch) 6 = .ok (.if_icmp .ge 104, 3) := dt_Ref_watch_c0 4
theorem d_Ref_watch_9 : decode (jm_cod M_Ref_watch) 9 = .ok (.aload_n 0, 1) := dt_Ref_watch_c0 5
theorem d_Ref_watch_10 : decode (jm_cod M_Ref_watch) 10 = .ok (.getfield 238, 3) := dt_Ref_watch_c0 6
theorem d_Ref_watch_13 : decode (jm_cod M_Ref_watch) 13 = .ok (.iload_n 1, 1) := dt_Ref_watch_c0 7
theorem d_Ref_watch_14 : decode (jm_cod M_Ref_watch) 14 = .ok (.iaload, 1) := dt_Ref_watch_c0 8
theorem d_Ref_watch_15 : decode (jm_cod M_Ref_watch) 15 = .ok (.ifCond .ne 95, 3) := dt_Ref_watch_c0 9
theorem d_Ref_watch_18 : decode (jm_cod M_Ref_watch) 18 = .ok (.iload_n 3, 1) := dt_Ref_watch_c0 10
theorem d_Ref_watch_19 : decode (jm_cod M_Ref_watch) 19 = .ok (.ifCond .eq 15, 3) := dt_Ref_watch_c0 11
theorem d_Ref_watch_22 : decode (jm_cod M_Ref_watch) 22 = .ok (.aload_n 0, 1) := dt_Ref_watch_c0 12
theorem d_Ref_watch_23 : decode (jm_cod M_Ref_watch) 23 = .ok (.getfield 274, 3) := dt_Ref_watch_c0 13
theorem d_Ref_watch_26 : decode (jm_cod M_Ref_watch) 26 = .ok (.iload_n 2, 1) := dt_Ref_watch_c0 14
theorem d_Ref_watch_27 : decode (jm_cod M_Ref_watch) 27 = .ok (.iload 4, 2) := dt_Ref_watch_c0 15
theorem d_Ref_watch_29 : decode (jm_cod M_Ref_watch) 29 = .ok (.iadd, 1) := dt_Ref_watch_c0 16
theorem d_Ref_watch_30 : decode (jm_cod M_Ref_watch) 30 = .ok (.baload, 1) := dt_Ref_watch_c0 17
theorem d_Ref_watch_31 : decode (jm_cod M_Ref_watch) 31 = .ok (.goto 12, 3) := dt_Ref_watch_c0 18
theorem d_Ref_watch_34 : decode (jm_cod M_Ref_watch) 34 = .ok (.aload_n 0, 1) := dt_Ref_watch_c0 19
theorem d_Ref_watch_35 : decode (jm_cod M_Ref_watch) 35 = .ok (.getfield 88, 3) := dt_Ref_watch_c0 20
theorem d_Ref_watch_38 : decode (jm_cod M_Ref_watch) 38 = .ok (.iload_n 2, 1) := dt_Ref_watch_c0 21
theorem d_Ref_watch_39 : decode (jm_cod M_Ref_watch) 39 = .ok (.iload 4, 2) := dt_Ref_watch_c0 22
theorem d_Ref_watch_41 : decode (jm_cod M_Ref_watch) 41 = .ok (.iadd, 1) := dt_Ref_watch_c0 23
def tab_Ref_watch_c1 : List (Nat × Instr × Nat) := [(42, .baload, 1), (43, .istore 5, 2), (45, .aload_n 0, 1), (46, .iload_n 1, 1), (47, .iload 4, 2), (49, .iload 5, 2), (51, .iload_n 3, 1), (52, .ifCond .eq 15, 3), (55, .aload_n 0, 1), (56, .getfield 280, 3), (59, .iload_n 2, 1), (60, .iload 4, 2), (62, .iadd, 1), (63, .laload, 1), (64, .goto 12, 3), (67, .aload_n 0, 1), (68, .getfield 94, 3), (71, .iload_n 2, 1), (72, .iload 4, 2), (74, .iadd, 1), (75, .laload, 1), (76, .iload_n 3, 1), (77, .ifCond .eq 15, 3), (80, .aload_n 0, 1)]
theorem dt_Ref_watch_c1 (i : Nat) : decode (jm_cod M_Ref_watch) (tab_Ref_watch_c1.getD i (42, .baload, 1)).1 = .ok ((tab_Ref_watch_c1.getD i (42, .baload, 1)).2.1, (tab_Ref_watch_c1.getD i (42, .baload, 1)).2.2) := j_tab (by decide +kernel) i
theorem d_Ref_watch_42 : decode (jm_cod M_Ref_watch) 42 = .ok (.baload, 1) := dt_Ref_watch_c1 0
theorem d_Ref_watch_43 : decode (jm_cod M_Ref_watch) 43 = .ok (.istore 5, 2) := dt_Ref_watch_c1 1
theorem d_Ref_watch_45 : decode (jm_cod M_Ref_watch) 45 = .ok (.aload_n 0, 1) := dt_Ref_watch_c1 2
theorem d_Ref_watch_46 : decode (jm_cod M_Ref_watch) 46 = .ok (.iload_n 1, 1) := dt_Ref_watch_c1 3
theorem d_Ref_watch_47 : decode (jm_cod M_Ref_watch) 47 = .ok (.iload 4, 2) := dt_Ref_watch_c1 4
theorem d_Ref_watch_49 : decode (jm_cod M_Ref_watch) 49 = .ok (.iload 5, 2) := dt_Ref_watch_c1 5
theorem d_Ref_watch_51 : decode (jm_cod M_Ref_watch) 51 = .ok (.iload_n 3, 1) := dt_Ref_watch_c1 6
theorem d_Ref_watch_52 : decode (jm_cod M_Ref_watch) 52 = .ok (.ifCond .eq 15, 3) := dt_Ref_watch_c1 7
theorem d_Ref_watch_55 : decode (jm_cod M_Ref_watch) 55 = .ok (.aload_n 0, 1) := dt_Ref_watch_c1 8
theorem d_Ref_watch_56 : decode (jm_cod M_Ref_watch) 56 = .ok (.getfield 280, 3) := dt_Ref_watch_c1 9
theorem d_Ref_watch_59 : decode (jm_cod M_Ref_watch) 59 = .ok (.iload_n 2, 1) := dt_Ref_watch_c1 10
theorem d_Ref_watch_60 : decode (jm_cod M_Ref_watch) 60 = .ok (.iload 4, 2) := dt_Ref_watch_c1 11
theorem d_Ref_watch_62 : decode (jm_cod M_Ref_watch) 62 = .ok (.iadd, 1) := dt_Ref_watch_c1 12
theorem d_Ref_watch_63 : decode (jm_cod M_Ref_watch) 63 = .ok (.laload, 1) := dt_Ref_watch_c1 13
theorem d_Ref_watch_64 : decode (jm_cod M_Ref_watch) 64 = .ok (.goto 12, 3) := dt_Ref_watch_c1 14
theorem d_Ref_watch_67 : decode (jm_cod M_Ref_watch) 67 = .ok (.aload_n 0, 1) := dt_Ref_watch_c1 15
theorem d_Ref_watch_68 : decode (jm_cod M_Ref_watch) 68 = .ok (.getfield 94, 3) := dt_Ref_watch_c1 16
theorem d_Ref_watch_71 : decode (jm_cod M_Ref_watch) 71 = .ok (.iload_n 2, 1) := dt_Ref_watch_c1 17
theorem d_Ref_watch_72 : decode (jm_cod M_Ref_watch) 72 = .ok (.iload 4, 2) := dt_Ref_watch_c1 18
theorem d_Ref_watch_74 : decode (jm_cod M_Ref_watch) 74 = .ok (.iadd, 1) := dt_Ref_watch_c1 19
theorem d_Ref_watch_75 : decode (jm_cod M_Ref_watch) 75 = .ok (.laload, 1) := dt_Ref_watch_c1 20
theorem d_Ref_watch_76 : decode (jm_cod M_Ref_watch) 76 = .ok (.iload_n 3, 1) := dt_Ref_watch_c1 21
theorem d_Ref_watch_77 : decode (jm_cod M_Ref_watch) 77 = .ok (.ifCond .eq 15, 3) := dt_Ref_watch_c1 22
theorem d_Ref_watch_80 : decode (jm_cod M_Ref_watch) 80 = .ok (.aload_n 0, 1) := dt_Ref_watch_c1 23
def tab_Ref_watch_c2 : List (Nat × Instr × Nat) := [(81, .getfield 283, 3), (84, .iload_n 2, 1), (85, .iload 4, 2), (87, .iadd, 1), (88, .iaload, 1), (89, .goto 12, 3), (92, .aload_n 0, 1), (93, .getfield 97, 3), (96, .iload_n 2, 1), (97, .iload 4, 2), (99, .iadd, 1), (100, .iaload, 1), (101, .invokevirtual 441, 3), (104, .iinc 4 1, 3), (107, .goto (-104), 3), (110, .aload_n 0, 1), (111, .getfield 238, 3), (114, .iload_n 1, 1), (115, .iaload, 1), (116, .ifCond .ne 10, 3), (119, .aload_n 0, 1), (120, .iload_n 1, 1), (121, .iload_n 2, 1), (122, .iload_n 3, 1)]
theorem dt_Ref_watch_c2 (i : Nat) : decode (jm_cod M_Ref_watch) (tab_Ref_watch_c2.getD i (81, .getfield 283, 3)).1 = .ok ((tab_Ref_watch_c2.getD i (81, .getfield 283, 3)).2.1, (tab_Ref_watch_c2.getD i (81, .getfield 283, 3)).2.2) := j_tab (by decide +kernel) i
theorem d_Ref_watch_81 : decode (jm_cod M_Ref_watch) 81 = .ok (.getfield 283, 3) := dt_Ref_watch_c2 0
theorem d_Ref_watch_84 : decode (jm_cod M_Ref_watch) 84 = .ok (.iload_n 2, 1) := dt_Ref_watch_c2 1
theorem d_Ref_watch_85 : decode (jm_cod M_Ref_watch) 85 = .ok (.iload 4, 2) := dt_Ref_watch_c2 2
theorem d_Ref_watch_87 : decode (jm_cod M_Ref_watch) 87 = .ok (.iadd, 1) := dt_Ref_watch_c2 3
theorem d_Ref_watch_88 : decode (jm_cod M_Ref_watch) 88 = .ok (.iaload, 1) := dt_Ref_watch_c2 4
theorem d_Ref_watch_89 : decode (jm_cod M_Ref_watch) 89 = .ok (.goto 12, 3) := dt_Ref_watch_c2 5
theorem d_Ref_watch_92 : decode (jm_cod M_Ref_watch) 92 = .ok (.aload_n 0, 1) := dt_Ref_watch_c2 6
theorem d_Ref_watch_93 : decode (jm_cod M_Ref_watch) 93 = .ok (.getfield 97, 3) := dt_Ref_watch_c2 7
theorem d_Ref_watch_96 : decode (jm_cod M_Ref_watch) 96 = .ok (.iload_n 2, 1) := dt_Ref_watch_c2 8
theorem d_Ref_watch_97 : decode (jm_cod M_Ref_watch) 97 = .ok (.iload 4, 2) := dt_Ref_watch_c2 9
theorem d_Ref_watch_99 : decode (jm_cod M_Ref_watch) 99 = .ok (.iadd, 1) := dt_Ref_watch_c2 10
theorem d_Ref_watch_100 : decode (jm_cod M_Ref_watch) 100 = .ok (.iaload, 1) := dt_Ref_watch_c2 11
theorem d_Ref_watch_101 : decode (jm_cod M_Ref_watch) 101 = .ok (.invokevirtual 441, 3) := dt_Ref_watch_c2 12
theorem d_Ref_watch_104 : decode (jm_cod M_Ref_watch) 104 = .ok (.iinc 4 1, 3) := dt_Ref_watch_c2 13
theorem d_Ref_watch_107 : decode (jm_cod M_Ref_watch) 107 = .ok (.goto (-104), 3) := dt_Ref_watch_c2 14
theorem d_Ref_watch_110 : decode (jm_cod M_Ref_watch) 110 = .ok (.aload_n 0, 1) := dt_Ref_watch_c2 15
theorem d_Ref_watch_111 : decode (jm_cod M_Ref_watch) 111 = .ok (.getfield 238, 3) := dt_Ref_watch_c2 16
theorem d_Ref_watch_114 : decode (jm_cod M_Ref_watch) 114 = .ok (.iload_n 1, 1) := dt_Ref_watch_c2 17
theorem d_Ref_watch_115 : decode (jm_cod M_Ref_watch) 115 = .ok (.iaload, 1) := dt_Ref_watch_c2 18
theorem d_Ref_watch_116 : decode (jm_cod M_Ref_watch) 116 = .ok (.ifCond .ne 10, 3) := dt_Ref_watch_c2 19
theorem d_Ref_watch_119 : decode (jm_cod M_Ref_watch) 119 = .ok (.aload_n 0, 1) := dt_Ref_watch_c2 20
theorem d_Ref_watch_120 : decode (jm_cod M_Ref_watch) 120 = .ok (.iload_n 1, 1) := dt_Ref_watch_c2 21
theorem d_Ref_watch_121 : decode (jm_cod M_Ref_watch) 121 = .ok (.iload_n 2, 1) := dt_Ref_watch_c2 22
theorem d_Ref_watch_122 : decode (jm_cod M_Ref_watch) 122 = .ok (.iload_n 3, 1) := dt_Ref_watch_c2 23
def tab_Ref_watch_c3 : List (Nat × Instr × Nat) := [(123, .invokevirtual 445, 3), (126, .iconst 0, 1), (127, .istore 4, 2), (129, .iload 4, 2), (131, .iconst 5, 1), (132, .if_icmp .ge 161, 3), (135, .iload_n 3, 1), (136, .ifCond .eq 15, 3), (139, .aload_n 0, 1), (140, .getfield 274, 3), (143, .iload_n 2, 1), (144, .iload 4, 2), (146, .iadd, 1), (147, .baload, 1), (148, .goto 12, 3), (151, .aload_n 0, 1), (152, .getfield 88, 3), (155, .iload_n 2, 1), (156, .iload 4, 2), (158, .iadd, 1), (159, .baload, 1), (160, .istore 5, 2), (162, .iload_n 3, 1), (163, .ifCond .eq 15, 3)]
theorem dt_Ref_watch_c3 (i : Nat) : decode (jm_cod M_Ref_watch) (tab_Ref_watch_c3.getD i (123, .invokevirtual 445, 3)).1 = .ok ((tab_Ref_watch_c3.getD i (123, .invokevirtual 445, 3)).2.1, (tab_Ref_watch_c3.getD i (123, .invokevirtual 445, 3)).2.2) := j_tab (by decide +kernel) i
theorem d_Ref_watch_123 : decode (jm_cod M_Ref_watch) 123 = .ok (.invokevirtual 445, 3) := dt_Ref_watch_c3 0
theorem d_Ref_watch_126 : decode (jm_cod M_Ref_watch) 126 = .ok (.iconst 0, 1) := dt_Ref_watch_c3 1
theorem d_Ref_watch_127 : decode (jm_cod M_Ref_watch) 127 = .ok (.istore 4, 2) := dt_Ref_watch_c3 2
theorem d_Ref_watch_129 : decode (jm_cod M_Ref_watch) 129 = .ok (.iload 4, 2) := dt_Ref_watch_c3 3
theorem d_Ref_watch_131 : decode (jm_cod M_Ref_watch) 131 = .ok (.iconst 5, 1) := dt_Ref_watch_c3 4
theorem d_Ref_watch_132 : decode (jm_cod M_Ref_watch) 132 = .ok (.if_icmp .ge 161, 3) := dt_Ref_watch_c3 5
theorem d_Ref_watch_135 : decode (jm_cod M_Ref_watch) 135 = .ok (.iload_n 3, 1) := dt_Ref_watch_c3 6
theorem d_Ref_watch_136 : decode (jm_cod M_Ref_watch) 136 = .ok (.ifCond .eq 15, 3) := dt_Ref_watch_c3 7
theorem d_Ref_watch_139 : decode (jm_cod M_Ref_watch) 139 = .ok (.aload_n 0, 1) := dt_Ref_watch_c3 8
theorem d_Ref_watch_140 : decode (jm_cod M_Ref_watch) 140 = .ok (.getfield 274, 3) := dt_Ref_watch_c3 9
theorem d_Ref_watch_143 : decode (jm_cod M_Ref_watch) 143 = .ok (.iload_n 2, 1) := dt_Ref_watch_c3 10
theorem d_Ref_watch_144 : decode (jm_cod M_Ref_watch) 144 = .ok (.iload 4, 2) := dt_Ref_watch_c3 11
theorem d_Ref_watch_146 : decode (jm_cod M_Ref_watch) 146 = .ok (.iadd, 1) := dt_Ref_watch_c3 12
theorem d_Ref_watch_147 : decode (jm_cod M_Ref_watch) 147 = .ok (.baload, 1) := dt_Ref_watch_c3 13
theorem d_Ref_watch_148 : decode (jm_cod M_Ref_watch) 148 = .ok (.goto 12, 3) := dt_Ref_watch_c3 14
theorem d_Ref_watch_151 : decode (jm_cod M_Ref_watch) 151 = .ok (.aload_n 0, 1) := dt_Ref_watch_c3 15
theorem d_Ref_watch_152 : decode (jm_cod M_Ref_watch) 152 = .ok (.getfield 88, 3) := dt_Ref_watch_c3 16
theorem d_Ref_watch_155 : decode (jm_cod M_Ref_watch) 155 = .ok (.iload_n 2, 1) := dt_Ref_watch_c3 17
theorem d_Ref_watch_156 : decode (jm_cod M_Ref_watch) 156 = .ok (.iload 4, 2) := dt_Ref_watch_c3 18
theorem d_Ref_watch_158 : decode (jm_cod M_Ref_watch) 158 = .ok (.iadd, 1) := dt_Ref_watch_c3 19
theorem d_Ref_watch_159 : decode (jm_cod M_Ref_watch) 159 = .ok (.baload, 1) := dt_Ref_watch_c3 20
theorem d_Ref_watch_160 : decode (jm_cod M_Ref_watch) 160 = .ok (.istore 5, 2) := dt_Ref_watch_c3 21
theorem d_Ref_watch_162 : decode (jm_cod M_Ref_watch) 162 = .ok (.iload_n 3, 1) := dt_Ref_watch_c3 22
theorem d_Ref_watch_163 : decode (jm_cod M_Ref_watch) 163 = .ok (.ifCond .eq 15, 3) := dt_Ref_watch_c3 23
def tab_Ref_watch_c4 : List (Nat × Instr × Nat) := [(166, .aload_n 0, 1), (167, .getfield 277, 3), (170, .iload_n 2, 1), (171, .iload 4, 2), (173, .iadd, 1), (174, .baload, 1), (175, .goto 12, 3), (178, .aload_n 0, 1), (179, .getfield 91, 3), (182, .iload_n 2, 1), (183, .iload 4, 2), (185, .iadd, 1), (186, .baload, 1), (187, .istore 6, 2), (189, .aload_n 0, 1), (190, .getfield 226, 3), (193, .iconst 5, 1), (194, .iload_n 1, 1), (195, .imul, 1), (196, .iload 4, 2), (198, .iadd, 1), (199, .iload 5, 2), (201, .ifCond .eq 12, 3), (204, .iload 6, 2)]
theorem dt_Ref_watch_c4 (i : Nat) : decode (jm_cod M_Ref_watch) (tab_Ref_watch_c4.getD i (166, .aload_n 0, 1)).1 = .ok ((tab_Ref_watch_c4.getD i (166, .aload_n 0, 1)).2.1, (tab_Ref_watch_c4.getD i (166, .aload_n 0, 1)).2.2) := j_tab (by decide +kernel) i
theorem d_Ref_watch_166 : decode (jm_cod M_Ref_watch) 166 = .ok (.aload_n 0, 1) := dt_Ref_watch_c4 0
theorem d_Ref_watch_167 : decode (jm_cod M_Ref_watch) 167 = .ok (.getfield 277, 3) := dt_Ref_watch_c4 1
theorem d_Ref_watch_170 : decode (jm_cod M_Ref_watch) 170 = .ok (.iload_n 2, 1) := dt_Ref_watch_c4 2
theorem d_Ref_watch_171 : decode (jm_cod M_Ref_watch) 171 = .ok (.iload 4, 2) := dt_Ref_watch_c4 3
theorem d_Ref_watch_173 : decode (jm_cod M_Ref_watch) 173 = .ok (.iadd, 1) := dt_Ref_watch_c4 4
theorem d_Ref_watch_174 : decode (jm_cod M_Ref_watch) 174 = .ok (.baload, 1) := dt_Ref_watch_c4 5
theorem d_Ref_watch_175 : decode (jm_cod M_Ref_watch) 175 = .ok (.goto 12, 3) := dt_Ref_watch_c4 6
theorem d_Ref_watch_178 : decode (jm_cod M_Ref_watch) 178 = .ok (.aload_n 0, 1) := dt_Ref_watch_c4 7
theorem d_Ref_watch_179 : decode (jm_cod M_Ref_watch) 179 = .ok (.getfield 91, 3) := dt_Ref_watch_c4 8
theorem d_Ref_watch_182 : decode (jm_cod M_Ref_watch) 182 = .ok (.iload_n 2, 1) := dt_Ref_watch_c4 9
theorem d_Ref_watch_183 : decode (jm_cod M_Ref_watch) 183 = .ok (.iload 4, 2) := dt_Ref_watch_c4 10
theorem d_Ref_watch_185 : decode (jm_cod M_Ref_watch) 185 = .ok (.iadd, 1) := dt_Ref_watch_c4 11
theorem d_Ref_watch_186 : decode (jm_cod M_Ref_watch) 186 = .ok (.baload, 1) := dt_Ref_watch_c4 12
theorem d_Ref_watch_187 : decode (jm_cod M_Ref_watch) 187 = .ok (.istore 6, 2) := dt_Ref_watch_c4 13
theorem d_Ref_watch_189 : decode (jm_cod M_Ref_watch) 189 = .ok (.aload_n 0, 1) := dt_Ref_watch_c4 14
theorem d_Ref_watch_190 : decode (jm_cod M_Ref_watch) 190 = .ok (.getfield 226, 3) := dt_Ref_watch_c4 15
theorem d_Ref_watch_193 : decode (jm_cod M_Ref_watch) 193 = .ok (.iconst 5, 1) := dt_Ref_watch_c4 16
theorem d_Ref_watch_194 : decode (jm_cod M_Ref_watch) 194 = .ok (.iload_n 1, 1) := dt_Ref_watch_c4 17
theorem d_Ref_watch_195 : decode (jm_cod M_Ref_watch) 195 = .ok (.imul, 1) := dt_Ref_watch_c4 18
theorem d_Ref_watch_196 : decode (jm_cod M_Ref_watch) 196 = .ok (.iload 4, 2) := dt_Ref_watch_c4 19
theorem d_Ref_watch_198 : decode (jm_cod M_Ref_watch) 198 = .ok (.iadd, 1) := dt_Ref_watch_c4 20
theorem d_Ref_watch_199 : decode (jm_cod M_Ref_watch) 199 = .ok (.iload 5, 2) := dt_Ref_watch_c4 21
theorem d_Ref_watch_201 : decode (jm_cod M_Ref_watch) 201 = .ok (.ifCond .eq 12, 3) := dt_Ref_watch_c4 22
theorem d_Ref_watch_204 : decode (jm_cod M_Ref_watch) 204 = .ok (.iload 6, 2) := dt_Ref_watch_c4 23
def tab_Ref_watch_c5 : List (Nat × Instr × Nat) := [(206, .ifCond .ne 7, 3), (209, .iconst 1, 1), (210, .goto 4, 3), (213, .iconst 0, 1), (214, .bastore, 1), (215, .aload_n 0, 1), (216, .getfield 229, 3), (219, .iconst 5, 1), (220, .iload_n 1, 1), (221, .imul, 1), (222, .iload 4, 2), (224, .iadd, 1), (225, .iload_n 3, 1), (226, .ifCond .eq 15, 3), (229, .aload_n 0, 1), (230, .getfield 280, 3), (233, .iload_n 2, 1), (234, .iload 4, 2), (236, .iadd, 1), (237, .laload, 1), (238, .goto 12, 3), (241, .aload_n 0, 1), (242, .getfield 94, 3), (245, .iload_n 2, 1)]
theorem dt_Ref_watch_c5 (i : Nat) : decode (jm_cod M_Ref_watch) (tab_Ref_watch_c5.getD i (206, .ifCond .ne 7, 3)).1 = .ok ((tab_Ref_watch_c5.getD i (206, .ifCond .ne 7, 3)).2.1, (tab_Ref_watch_c5.getD i (206, .ifCond .ne 7, 3)).2.2) := j_tab (by decide +kernel) i
theorem d_Ref_watch_206 : decode (jm_cod M_Ref_watch) 206 = .ok (.ifCond .ne 7, 3) := dt_Ref_watch_c5 0
theorem d_Ref_watch_209 : decode (jm_cod M_Ref_watch) 209 = .ok (.iconst 1, 1) := dt_Ref_watch_c5 1
theorem d_Ref_watch_210 : decode (jm_cod M_Ref_watch) 210 = .ok (.goto 4, 3) := dt_Ref_watch_c5 2
theorem d_Ref_watch_213 : decode (jm_cod M_Ref_watch) 213 = .ok (.iconst 0, 1) := dt_Ref_watch_c5 3
theorem d_Ref_watch_214 : decode (jm_cod M_Ref_watch) 214 = .ok (.bastore, 1) := dt_Ref_watch_c5 4
theorem d_Ref_watch_215 : decode (jm_cod M_Ref_watch) 215 = .ok (.aload_n 0, 1) := dt_Ref_watch_c5 5
theorem d_Ref_watch_216 : decode (jm_cod M_Ref_watch) 216 = .ok (.getfield 229, 3) := dt_Ref_watch_c5 6
theorem d_Ref_watch_219 : decode (jm_cod M_Ref_watch) 219 = .ok (.iconst 5, 1) := dt_Ref_watch_c5 7
theorem d_Ref_watch_220 : decode (jm_cod M_Ref_watch) 220 = .ok (.iload_n 1, 1) := dt_Ref_watch_c5 8
theorem d_Ref_watch_221 : decode (jm_cod M_Ref_watch) 221 = .ok (.imul, 1) := dt_Ref_watch_c5 9
theorem d_Ref_watch_222 : decode (jm_cod M_Ref_watch) 222 = .ok (.iload 4, 2) := dt_Ref_watch_c5 10
theorem d_Ref_watch_224 : decode (jm_cod M_Ref_watch) 224 = .ok (.iadd, 1) := dt_Ref_watch_c5 11
theorem d_Ref_watch_225 : decode (jm_cod M_Ref_watch) 225 = .ok (.iload_n 3, 1) := dt_Ref_watch_c5 12
theorem d_Ref_watch_226 : decode (jm_cod M_Ref_watch) 226 = .ok (.ifCond .eq 15, 3) := dt_Ref_watch_c5 13
theorem d_Ref_watch_229 : decode (jm_cod M_Ref_watch) 229 = .ok (.aload_n 0, 1) := dt_Ref_watch_c5 14
theorem d_Ref_watch_230 : decode (jm_cod M_Ref_watch) 230 = .ok (.getfield 280, 3) := dt_Ref_watch_c5 15
theorem d_Ref_watch_233 : decode (jm_cod M_Ref_watch) 233 = .ok (.iload_n 2, 1) := dt_Ref_watch_c5 16
theorem d_Ref_watch_234 : decode (jm_cod M_Ref_watch) 234 = .ok (.iload 4, 2) := dt_Ref_watch_c5 17
theorem d_Ref_watch_236 : decode (jm_cod M_Ref_watch) 236 = .ok (.iadd, 1) := dt_Ref_watch_c5 18
theorem d_Ref_watch_237 : decode (jm_cod M_Ref_watch) 237 = .ok (.laload, 1) := dt_Ref_watch_c5 19
theorem d_Ref_watch_238 : decode (jm_cod M_Ref_watch) 238 = .ok (.goto 12, 3) := dt_Ref_watch_c5 20
theorem d_Ref_watch_241 : decode (jm_cod M_Ref_watch) 241 = .ok (.aload_n 0, 1) := dt_Ref_watch_c5 21
theorem d_Ref_watch_242 : decode (jm_cod M_Ref_watch) 242 = .ok (.getfield 94, 3) := dt_Ref_watch_c5 22
theorem d_Ref_watch_245 : decode (jm_cod M_Ref_watch) 245 = .ok (.iload_n 2, 1) := dt_Ref_watch_c5 23
def tab_Ref_watch_c6 : List (Nat × Instr × Nat) := [(246, .iload 4, 2), (248, .iadd, 1), (249, .laload, 1), (250, .lastore, 1), (251, .aload_n 0, 1), (252, .getfield 232, 3), (255, .iconst 5, 1), (256, .iload_n 1, 1), (257, .imul, 1), (258, .iload 4, 2), (260, .iadd, 1), (261, .iload_n 3, 1), (262, .ifCond .eq 15, 3), (265, .aload_n 0, 1), (266, .getfield 283, 3), (269, .iload_n 2, 1), (270, .iload 4, 2), (272, .iadd, 1), (273, .iaload, 1), (274, .goto 12, 3), (277, .aload_n 0, 1), (278, .getfield 97, 3), (281, .iload_n 2, 1), (282, .iload 4, 2)]
theorem dt_Ref_watch_c6 (i : Nat) : decode (jm_cod M_Ref_watch) (tab_Ref_watch_c6.getD i (246, .iload 4, 2)).1 = .ok ((tab_Ref_watch_c6.getD i (246, .iload 4, 2)).2.1, (tab_Ref_watch_c6.getD i (246, .iload 4, 2)).2.2) := j_tab (by decide +kernel) i
theorem d_Ref_watch_246 : decode (jm_cod M_Ref_watch) 246 = .ok (.iload 4, 2) := dt_Ref_watch_c6 0
theorem d_Ref_watch_248 : decode (jm_cod M_Ref_watch) 248 = .ok (.iadd, 1) := dt_Ref_watch_c6 1
theorem d_Ref_watch_249 : decode (jm_cod M_Ref_watch) 249 = .ok (.laload, 1) := dt_Ref_watch_c6 2
theorem d_Ref_watch_250 : decode (jm_cod M_Ref_watch) 250 = .ok (.lastore, 1) := dt_Ref_watch_c6 3
theorem d_Ref_watch_251 : decode (jm_cod M_Ref_watch) 251 = .ok (.aload_n 0, 1) := dt_Ref_watch_c6 4
theorem d_Ref_watch_252 : decode (jm_cod M_Ref_watch) 252 = .ok (.getfield 232, 3) := dt_Ref_watch_c6 5
theorem d_Ref_watch_255 : decode (jm_cod M_Ref_watch) 255 = .ok (.iconst 5, 1) := dt_Ref_watch_c6 6
theorem d_Ref_watch_256 : decode (jm_cod M_Ref_watch) 256 = .ok (.iload_n 1, 1) := dt_Ref_watch_c6 7
theorem d_Ref_watch_257 : decode (jm_cod M_Ref_watch) 257 = .ok (.imul, 1) := dt_Ref_watch_c6 8
theorem d_Ref_watch_258 : decode (jm_cod M_Ref_watch) 258 = .ok (.iload 4, 2) := dt_Ref_watch_c6 9
theorem d_Ref_watch_260 : decode (jm_cod M_Ref_watch) 260 = .ok (.iadd, 1) := dt_Ref_watch_c6 10
theorem d_Ref_watch_261 : decode (jm_cod M_Ref_watch) 261 = .ok (.iload_n 3, 1) := dt_Ref_watch_c6 11
theorem d_Ref_watch_262 : decode (jm_cod M_Ref_watch) 262 = .ok (.ifCond .eq 15, 3) := dt_Ref_watch_c6 12
theorem d_Ref_watch_265 : decode (jm_cod M_Ref_watch) 265 = .ok (.aload_n 0, 1) := dt_Ref_watch_c6 13
theorem d_Ref_watch_266 : decode (jm_cod M_Ref_watch) 266 = .ok (.getfield 283, 3) := dt_Ref_watch_c6 14
theorem d_Ref_watch_269 : decode (jm_cod M_Ref_watch) 269 = .ok (.iload_n 2, 1) := dt_Ref_watch_c6 15
theorem d_Ref_watch_270 : decode (jm_cod M_Ref_watch) 270 = .ok (.iload 4, 2) := dt_Ref_watch_c6 16
theorem d_Ref_watch_272 : decode (jm_cod M_Ref_watch) 272 = .ok (.iadd, 1) := dt_Ref_watch_c6 17
theorem d_Ref_watch_273 : decode (jm_cod M_Ref_watch) 273 = .ok (.iaload, 1) := dt_Ref_watch_c6 18
theorem d_Ref_watch_274 : decode (jm_cod M_Ref_watch) 274 = .ok (.goto 12, 3) := dt_Ref_watch_c6 19
theorem d_Ref_watch_277 : decode (jm_cod M_Ref_watch) 277 = .ok (.aload_n 0, 1) := dt_Ref_watch_c6 20
theorem d_Ref_watch_278 : decode (jm_cod M_Ref_watch) 278 = .ok (.getfield 97, 3) := dt_Ref_watch_c6 21
theorem d_Ref_watch_281 : decode (jm_cod M_Ref_watch) 281 = .ok (.iload_n 2, 1) := dt_Ref_watch_c6 22
theorem d_Ref_watch_282 : decode (jm_cod M_Ref_watch) 282 = .ok (.iload 4, 2) := dt_Ref_watch_c6 23
def tab_Ref_watch_c7 : List (Nat × Instr × Nat) := [(284, .iadd, 1), (285, .iaload, 1), (286, .iastore, 1), (287, .iinc 4 1, 3), (290, .goto (-161), 3), (293, .aload_n 0, 1), (294, .getfield 235, 3), (297, .iload_n 1, 1), (298, .dup2, 1), (299, .iaload, 1), (300, .iconst 1, 1), (301, .iadd, 1), (302, .iastore, 1), (303, .return_, 1)]
theorem dt_Ref_watch_c7 (i : Nat) : decode (jm_cod M_Ref_watch) (tab_Ref_watch_c7.getD i (284, .iadd, 1)).1 = .ok ((tab_Ref_watch_c7.getD i (284, .iadd, 1)).2.1, (tab_Ref_watch_c7.getD i (284, .iadd, 1)).2.2) := j_tab (by decide +kernel) i
theorem d_Ref_watch_284 : decode (jm_cod M_Ref_watch) 284 = .ok (.iadd, 1) := dt_Ref_watch_c7 0
theorem d_Ref_watch_285 : decode (jm_cod M_Ref_watch) 285 = .ok (.iaload, 1) := dt_Ref_watch_c7 1
theorem d_Ref_watch_286 : decode (jm_cod M_Ref_watch) 286 = .ok (.iastore, 1) := dt_Ref_watch_c7 2
theorem d_Ref_watch_287 : decode (jm_cod M_Ref_watch) 287 = .ok (.iinc 4 1, 3) := dt_Ref_watch_c7 3
theorem d_Ref_watch_290 : decode (jm_cod M_Ref_watch) 290 = .ok (.goto (-161), 3) := dt_Ref_watch_c7 4
theorem d_Ref_watch_293 : decode (jm_cod M_Ref_watch) 293 = .ok (.aload_n 0, 1) := dt_Ref_watch_c7 5
theorem d_Ref_watch_294 : decode (jm_cod M_Ref_watch) 294 = .ok (.getfield 235, 3) := dt_Ref_watch_c7 6
theorem d_Ref_watch_297 : decode (jm_cod M_Ref_watch) 297 = .ok (.iload_n 1, 1) := dt_Ref_watch_c7 7
theorem d_Ref_watch_298 : decode (jm_cod M_Ref_watch) 298 = .ok (.dup2, 1) := dt_Ref_watch_c7 8
theorem d_Ref_watch_299 : decode (jm_cod M_Ref_watch) 299 = .ok (.iaload, 1) := dt_Ref_watch_c7 9
theorem d_Ref_watch_300 : decode (jm_cod M_Ref_watch) 300 = .ok (.iconst 1, 1) := dt_Ref_watch_c7 10
theorem d_Ref_watch_301 : decode (jm_cod M_Ref_watch) 301 = .ok (.iadd, 1) := dt_Ref_watch_c7 11
theorem d_Ref_watch_302 : decode (jm_cod M_Ref_watch) 302 = .ok (.iastore, 1) := dt_Ref_watch_c7 12
theorem d_Ref_watch_303 : decode (jm_cod M_Ref_watch) 303 = .ok (.return_, 1) := dt_Ref_watch_c7 13
def tab_Ref_lookAt_c0 : List (Nat × Instr × Nat) := [(0, .iconst 5, 1), (1, .iload_n 1, 1), (2, .imul, 1), (3, .iload_n 2, 1), (4, .iadd, 1), (5, .istore 7, 2), (7, .aload_n 0, 1), (8, .getfield 226, 3), (11, .iload 7, 2), (13, .baload, 1), (14, .ifCond .eq 50, 3), (17, .iload_n 3, 1), (18, .ifCond .ne 13, 3), (21, .aload_n 0, 1), (22, .iload_n 1, 1), (23, .iconst 1, 1), (24, .iload_n 2, 1), (25, .invokevirtual 415, 3), (28, .goto 35, 3), (31, .lload 4, 2), (33, .aload_n 0, 1), (34, .getfield 229, 3), (37, .iload 7, 2), (39, .laload, 1)]
theorem dt_Ref_lookAt_c0 (i : Nat) : decode (jm_cod M_Ref_lookAt) (tab_Ref_lookAt_c0.getD i (0, .iconst 5, 1)).1 = .ok ((tab_Ref_lookAt_c0.getD i (0, .iconst 5, 1)).2.1, (tab_Ref_lookAt_c0.getD i (0, .iconst 5, 1)).2.2) := j_tab (by decide +kernel) i
theorem d_Ref_lookAt_0 : decode (jm_cod M_Ref_lookAt) 0 = .ok (.iconst 5, 1) := dt_Ref_lookAt_c0 0
theorem d_Ref_lookAt_1 : decode (jm_cod M_Ref_lookAt) 1 = .ok (.iload_n 1, 1) := dt_Ref_lookAt_c0 1
theorem d_Ref_lookAt_2 : decode (jm_cod M_Ref_lookAt) 2 = .ok (.imul, 1) := dt_Ref_lookAt_c0 2
theorem d_Ref_lookAt_3 : decode (jm_cod M_Ref_lookAt) 3 = .ok (.iload_n 2, 1) := dt_Ref_lookAt_c0 3
theorem d_Ref_lookAt_4 : decode (jm_cod M_Ref_lookAt) 4 = .ok (.iadd, 1) := dt_Ref_lookAt_c0 4
theorem d_Ref_lookAt_5 : decode (jm_cod M_Ref_lookAt) 5 = .ok (.istore 7, 2) := dt_Ref_lookAt_c0 5
theorem d_Ref_lookAt_7 : decode (jm_cod M_Ref_lookAt) 7 = .ok (.aload_n 0, 1) := dt_Ref_lookAt_c0 6
theorem d_Ref_lookAt_8 : decode (jm_cod M_Ref_lookAt) 8 = .ok (.getfield 226, 3) := dt_Ref_lookAt_c0 7
theorem d_Ref_lookAt_11 : decode (jm_cod M_Ref_lookAt) 11 = .ok (.iload 7, 2) := dt_Ref_lookAt_c0 8
theorem d_Ref_lookAt_13 : decode (jm_cod M_Ref_lookAt) 13 = .ok (.baload, 1) := dt_Ref_lookAt_c0 9
theorem d_Ref_lookAt_14 : decode (jm_cod M_Ref_lookAt) 14 = .ok (.ifCond .eq 50, 3) := dt_Ref_lookAt_c0 10
theorem d_Ref_lookAt_17 : decode (jm_cod M_Ref_lookAt) 17 = .ok (.iload_n 3, 1) := dt_Ref_lookAt_c0 11
theorem d_Ref_lookAt_18 : decode (jm_cod M_Ref_lookAt) 18 = .ok (.ifCond .ne 13, 3) := dt_Ref_lookAt_c0 12
theorem d_Ref_lookAt_21 : decode (jm_cod M_Ref_lookAt) 21 = .ok (.aload_n 0, 1) := dt_Ref_lookAt_c0 13
theorem d_Ref_lookAt_22 : decode (jm_cod M_Ref_lookAt) 22 = .ok (.iload_n 1, 1) := dt_Ref_lookAt_c0 14
theorem d_Ref_lookAt_23 : decode (jm_cod M_Ref_lookAt) 23 = .ok (.iconst 1, 1) := dt_Ref_lookAt_c0 15
theorem d_Ref_lookAt_24 : decode (jm_cod M_Ref_lookAt) 24 = .ok (.iload_n 2, 1) := dt_Ref_lookAt_c0 16
theorem d_Ref_lookAt_25 : decode (jm_cod M_Ref_lookAt) 25 = .ok (.invokevirtual 415, 3) := dt_Ref_lookAt_c0 17
theorem d_Ref_lookAt_28 : decode (jm_cod M_Ref_lookAt) 28 = .ok (.goto 35, 3) := dt_Ref_lookAt_c0 18
theorem d_Ref_lookAt_31 : decode (jm_cod M_Ref_lookAt) 31 = .ok (.lload 4, 2) := dt_Ref_lookAt_c0 19
theorem d_Ref_lookAt_33 : decode (jm_cod M_Ref_lookAt) 33 = .ok (.aload_n 0, 1) := dt_Ref_lookAt_c0 20
theorem d_Ref_lookAt_34 : decode (jm_cod M_Ref_lookAt) 34 = .ok (.getfield 229, 3) := dt_Ref_lookAt_c0 21
theorem d_Ref_lookAt_37 : decode (jm_cod M_Ref_lookAt) 37 = .ok (.iload 7, 2) := dt_Ref_lookAt_c0 22
theorem d_Ref_lookAt_39 : decode (jm_cod M_Ref_lookAt) 39 = .ok (.laload, 1) := dt_Ref_lookAt_c0 23
def tab_Ref_lookAt_c1 : List (Nat × Instr × Nat) := [(40, .lcmp, 1), (41, .ifCond .ne 15, 3), (44, .iload 6, 2), (46, .aload_n 0, 1), (47, .getfield 232, 3), (50, .iload 7, 2), (52, .iaload, 1), (53, .if_icmp .eq 10, 3), (56, .aload_n 0, 1), (57, .iload_n 1, 1), (58, .iconst 2, 1), (59, .iload_n 2, 1), (60, .invokevirtual 415, 3), (63, .return_, 1), (64, .iload_n 3, 1), (65, .ifCond .ne 4, 3), (68, .return_, 1), (69, .iload 6, 2), (71, .bipush 63, 2), (73, .iand, 1), (74, .istore 8, 2), (76, .iload 6, 2), (78, .bipush 6, 2), (80, .ishr, 1)]
theorem dt_Ref_lookAt_c1 (i : Nat) : decode (jm_cod M_Ref_lookAt) (tab_Ref_lookAt_c1.getD i (40, .lcmp, 1)).1 = .ok ((tab_Ref_lookAt_c1.getD i (40, .lcmp, 1)).2.1, (tab_Ref_lookAt_c1.getD i (40, .lcmp, 1)).2.2) := j_tab (by decide +kernel) i
theorem d_Ref_lookAt_40 : decode (jm_cod M_Ref_lookAt) 40 = .ok (.lcmp, 1) := dt_Ref_lookAt_c1 0
theorem d_Ref_lookAt_41 : decode (jm_cod M_Ref_lookAt) 41 = .ok (.ifCond .ne 15, 3) := dt_Ref_lookAt_c1 1
theorem d_Ref_lookAt_44 : decode (jm_cod M_Ref_lookAt) 44 = .ok (.iload 6, 2) := dt_Ref_lookAt_c1 2
theorem d_Ref_lookAt_46 : decode (jm_cod M_Ref_lookAt) 46 = .ok (.aload_n 0, 1) := dt_Ref_lookAt_c1 3
theorem d_Ref_lookAt_47 : decode (jm_cod M_Ref_lookAt) 47 = .ok (.getfield 232, 3) := dt_Ref_lookAt_c1 4
theorem d_Ref_lookAt_50 : decode (jm_cod M_Ref_lookAt) 50 = .ok (.iload 7, 2) := dt_Ref_lookAt_c1 5
theorem d_Ref_lookAt_52 : decode (jm_cod M_Ref_lookAt) 52 = .ok (.iaload, 1) := dt_Ref_lookAt_c1 6
theorem d_Ref_lookAt_53 : decode (jm_cod M_Ref_lookAt) 53 = .ok (.if_icmp .eq 10, 3) := dt_Ref_lookAt_c1 7
theorem d_Ref_lookAt_56 : decode (jm_cod M_Ref_lookAt) 56 = .ok (.aload_n 0, 1) := dt_Ref_lookAt_c1 8
theorem d_Ref_lookAt_57 : decode (jm_cod M_Ref_lookAt) 57 = .ok (.iload_n 1, 1) := dt_Ref_lookAt_c1 9
theorem d_Ref_lookAt_58 : decode (jm_cod M_Ref_lookAt) 58 = .ok (.iconst 2, 1) := dt_Ref_lookAt_c1 10
theorem d_Ref_lookAt_59 : decode (jm_cod M_Ref_lookAt) 59 = .ok (.iload_n 2, 1) := dt_Ref_lookAt_c1 11
theorem d_Ref_lookAt_60 : decode (jm_cod M_Ref_lookAt) 60 = .ok (.invokevirtual 415, 3) := dt_Ref_lookAt_c1 12
theorem d_Ref_lookAt_63 : decode (jm_cod M_Ref_lookAt) 63 = .ok (.return_, 1) := dt_Ref_lookAt_c1 13
theorem d_Ref_lookAt_64 : decode (jm_cod M_Ref_lookAt) 64 = .ok (.iload_n 3, 1) := dt_Ref_lookAt_c1 14
theorem d_Ref_lookAt_65 : decode (jm_cod M_Ref_lookAt) 65 = .ok (.ifCond .ne 4, 3) := dt_Ref_lookAt_c1 15
theorem d_Ref_lookAt_68 : decode (jm_cod M_Ref_lookAt) 68 = .ok (.return_, 1) := dt_Ref_lookAt_c1 16
theorem d_Ref_lookAt_69 : decode (jm_cod M_Ref_lookAt) 69 = .ok (.iload 6, 2) := dt_Ref_lookAt_c1 17
theorem d_Ref_lookAt_71 : decode (jm_cod M_Ref_lookAt) 71 = .ok (.bipush 63, 2) := dt_Ref_lookAt_c1 18
theorem d_Ref_lookAt_73 : decode (jm_cod M_Ref_lookAt) 73 = .ok (.iand, 1) := dt_Ref_lookAt_c1 19
theorem d_Ref_lookAt_74 : decode (jm_cod M_Ref_lookAt) 74 = .ok (.istore 8, 2) := dt_Ref_lookAt_c1 20
theorem d_Ref_lookAt_76 : decode (jm_cod M_Ref_lookAt) 76 = .ok (.iload 6, 2) := dt_Ref_lookAt_c1 21
theorem d_Ref_lookAt_78 : decode (jm_cod M_Ref_lookAt) 78 = .ok (.bipush 6, 2) := dt_Ref_lookAt_c1 22
theorem d_Ref_lookAt_80 : decode (jm_cod M_Ref_lookAt) 80 = .ok (.ishr, 1) := dt_Ref_lookAt_c1 23
def tab_Ref_lookAt_c2 : List (Nat × Instr × Nat) := [(81, .iconst 3, 1), (82, .iand, 1), (83, .istore 9, 2), (85, .iload_n 2, 1), (86, .ifCond .eq 8, 3), (89, .iload_n 2, 1), (90, .iconst 3, 1), (91, .if_icmp .ne 26, 3), (94, .lload 4, 2), (96, .invokestatic 419, 3), (99, .istore 10, 2), (101, .iload 10, 2), (103, .ifCond .le 11, 3), (106, .aload_n 0, 1), (107, .iload_n 1, 1), (108, .iload 10, 2), (110, .iload_n 2, 1), (111, .invokevirtual 415, 3), (114, .goto 177, 3), (117, .iload_n 2, 1), (118, .iconst 2, 1), (119, .if_icmp .ne 59, 3), (122, .aload_n 0, 1), (123, .iload_n 1, 1)]
theorem dt_Ref_lookAt_c2 (i : Nat) : decode (jm_cod M_Ref_lookAt) (tab_Ref_lookAt_c2.getD i (81, .iconst 3, 1)).1 = .ok ((tab_Ref_lookAt_c2.getD i (81, .iconst 3, 1)).2.1, (tab_Ref_lookAt_c2.getD i (81, .iconst 3, 1)).2.2) := j_tab (by decide +kernel) i
theorem d_Ref_lookAt_81 : decode (jm_cod M_Ref_lookAt) 81 = .ok (.iconst 3, 1) := dt_Ref_lookAt_c2 0
theorem d_Ref_lookAt_82 : decode (jm_cod M_Ref_lookAt) 82 = .ok (.iand, 1) := dt_Ref_lookAt_c2 1
theorem d_Ref_lookAt_83 : decode (jm_cod M_Ref_lookAt) 83 = .ok (.istore 9, 2) := dt_Ref_lookAt_c2 2
theorem d_Ref_lookAt_85 : decode (jm_cod M_Ref_lookAt) 85 = .ok (.iload_n 2, 1) := dt_Ref_lookAt_c2 3
theorem d_Ref_lookAt_86 : decode (jm_cod M_Ref_lookAt) 86 = .ok (.ifCond .eq 8, 3) := dt_Ref_lookAt_c2 4
theorem d_Ref_lookAt_89 : decode (jm_cod M_Ref_lookAt) 89 = .ok (.iload_n 2, 1) := dt_Ref_lookAt_c2 5
theorem d_Ref_lookAt_90 : decode (jm_cod M_Ref_lookAt) 90 = .ok (.iconst 3, 1) := dt_Ref_lookAt_c2 6
theorem d_Ref_lookAt_91 : decode (jm_cod M_Ref_lookAt) 91 = .ok (.if_icmp .ne 26, 3) := dt_Ref_lookAt_c2 7
theorem d_Ref_lookAt_94 : decode (jm_cod M_Ref_lookAt) 94 = .ok (.lload 4, 2) := dt_Ref_lookAt_c2 8
theorem d_Ref_lookAt_96 : decode (jm_cod M_Ref_lookAt) 96 = .ok (.invokestatic 419, 3) := dt_Ref_lookAt_c2 9
theorem d_Ref_lookAt_99 : decode (jm_cod M_Ref_lookAt) 99 = .ok (.istore 10, 2) := dt_Ref_lookAt_c2 10
theorem d_Ref_lookAt_101 : decode (jm_cod M_Ref_lookAt) 101 = .ok (.iload 10, 2) := dt_Ref_lookAt_c2 11
theorem d_Ref_lookAt_103 : decode (jm_cod M_Ref_lookAt) 103 = .ok (.ifCond .le 11, 3) := dt_Ref_lookAt_c2 12
theorem d_Ref_lookAt_106 : decode (jm_cod M_Ref_lookAt) 106 = .ok (.aload_n 0, 1) := dt_Ref_lookAt_c2 13
theorem d_Ref_lookAt_107 : decode (jm_cod M_Ref_lookAt) 107 = .ok (.iload_n 1, 1) := dt_Ref_lookAt_c2 14
theorem d_Ref_lookAt_108 : decode (jm_cod M_Ref_lookAt) 108 = .ok (.iload 10, 2) := dt_Ref_lookAt_c2 15
theorem d_Ref_lookAt_110 : decode (jm_cod M_Ref_lookAt) 110 = .ok (.iload_n 2, 1) := dt_Ref_lookAt_c2 16
theorem d_Ref_lookAt_111 : decode (jm_cod M_Ref_lookAt) 111 = .ok (.invokevirtual 415, 3) := dt_Ref_lookAt_c2 17
theorem d_Ref_lookAt_114 : decode (jm_cod M_Ref_lookAt) 114 = .ok (.goto 177, 3) := dt_Ref_lookAt_c2 18
theorem d_Ref_lookAt_117 : decode (jm_cod M_Ref_lookAt) 117 = .ok (.iload_n 2, 1) := dt_Ref_lookAt_c2 19
theorem d_Ref_lookAt_118 : decode (jm_cod M_Ref_lookAt) 118 = .ok (.iconst 2, 1) := dt_Ref_lookAt_c2 20
theorem d_Ref_lookAt_119 : decode (jm_cod M_Ref_lookAt) 119 = .ok (.if_icmp .ne 59, 3) := dt_Ref_lookAt_c2 21
theorem d_Ref_lookAt_122 : decode (jm_cod M_Ref_lookAt) 122 = .ok (.aload_n 0, 1) := dt_Ref_lookAt_c2 22
theorem d_Ref_lookAt_123 : decode (jm_cod M_Ref_lookAt) 123 = .ok (.iload_n 1, 1) := dt_Ref_lookAt_c2 23
def tab_Ref_lookAt_c3 : List (Nat × Instr × Nat) := [(124, .iload 8, 2), (126, .invokevirtual 422, 3), (129, .istore 10, 2), (131, .iload 10, 2), (133, .iconst (-1), 1), (134, .if_icmp .ne 14, 3), (137, .aload_n 0, 1), (138, .iload_n 1, 1), (139, .bipush 9, 2), (141, .iload_n 2, 1), (142, .invokevirtual 415, 3), (145, .goto 30, 3), (148, .iload 9, 2), (150, .iconst 1, 1), (151, .if_icmp .ne 24, 3), (154, .aload_n 0, 1), (155, .getfield 256, 3), (158, .iload 10, 2), (160, .laload, 1), (161, .invokestatic 329, 3), (164, .ifCond .ne 11, 3), (167, .aload_n 0, 1), (168, .iload_n 1, 1), (169, .bipush 11, 2)]
theorem dt_Ref_lookAt_c3 (i : Nat) : decode (jm_cod M_Ref_lookAt) (tab_Ref_lookAt_c3.getD i (124, .iload 8, 2)).1 = .ok ((tab_Ref_lookAt_c3.getD i (124, .iload 8, 2)).2.1, (tab_Ref_lookAt_c3.getD i (124, .iload 8, 2)).2.2) := j_tab (by decide +kernel) i
theorem d_Ref_lookAt_124 : decode (jm_cod M_Ref_lookAt) 124 = .ok (.iload 8, 2) := dt_Ref_lookAt_c3 0
theorem d_Ref_lookAt_126 : decode (jm_cod M_Ref_lookAt) 126 = .ok (.invokevirtual 422, 3) := dt_Ref_lookAt_c3 1
theorem d_Ref_lookAt_129 : decode (jm_cod M_Ref_lookAt) 129 = .ok (.istore 10, 2) := dt_Ref_lookAt_c3 2
theorem d_Ref_lookAt_131 : decode (jm_cod M_Ref_lookAt) 131 = .ok (.iload 10, 2) := dt_Ref_lookAt_c3 3
theorem d_Ref_lookAt_133 : decode (jm_cod M_Ref_lookAt) 133 = .ok (.iconst (-1), 1) := dt_Ref_lookAt_c3 4
theorem d_Ref_lookAt_134 : decode (jm_cod M_Ref_lookAt) 134 = .ok (.if_icmp .ne 14, 3) := dt_Ref_lookAt_c3 5
theorem d_Ref_lookAt_137 : decode (jm_cod M_Ref_lookAt) 137 = .ok (.aload_n 0, 1) := dt_Ref_lookAt_c3 6
theorem d_Ref_lookAt_138 : decode (jm_cod M_Ref_lookAt) 138 = .ok (.iload_n 1, 1) := dt_Ref_lookAt_c3 7
theorem d_Ref_lookAt_139 : decode (jm_cod M_Ref_lookAt) 139 = .ok (.bipush 9, 2) := dt_Ref_lookAt_c3 8
theorem d_Ref_lookAt_141 : decode (jm_cod M_Ref_lookAt) 141 = .ok (.iload_n 2, 1) := dt_Ref_lookAt_c3 9
theorem d_Ref_lookAt_142 : decode (jm_cod M_Ref_lookAt) 142 = .ok (.invokevirtual 415, 3) := dt_Ref_lookAt_c3 10
theorem d_Ref_lookAt_145 : decode (jm_cod M_Ref_lookAt) 145 = .ok (.goto 30, 3) := dt_Ref_lookAt_c3 11
theorem d_Ref_lookAt_148 : decode (jm_cod M_Ref_lookAt) 148 = .ok (.iload 9, 2) := dt_Ref_lookAt_c3 12
theorem d_Ref_lookAt_150 : decode (jm_cod M_Ref_lookAt) 150 = .ok (.iconst 1, 1) := dt_Ref_lookAt_c3 13
theorem d_Ref_lookAt_151 : decode (jm_cod M_Ref_lookAt) 151 = .ok (.if_icmp .ne 24, 3) := dt_Ref_lookAt_c3 14
theorem d_Ref_lookAt_154 : decode (jm_cod M_Ref_lookAt) 154 = .ok (.aload_n 0, 1) := dt_Ref_lookAt_c3 15
theorem d_Ref_lookAt_155 : decode (jm_cod M_Ref_lookAt) 155 = .ok (.getfield 256, 3) := dt_Ref_lookAt_c3 16
theorem d_Ref_lookAt_158 : decode (jm_cod M_Ref_lookAt) 158 = .ok (.iload 10, 2) := dt_Ref_lookAt_c3 17
theorem d_Ref_lookAt_160 : decode (jm_cod M_Ref_lookAt) 160 = .ok (.laload, 1) := dt_Ref_lookAt_c3 18
theorem d_Ref_lookAt_161 : decode (jm_cod M_Ref_lookAt) 161 = .ok (.invokestatic 329, 3) := dt_Ref_lookAt_c3 19
theorem d_Ref_lookAt_164 : decode (jm_cod M_Ref_lookAt) 164 = .ok (.ifCond .ne 11, 3) := dt_Ref_lookAt_c3 20
theorem d_Ref_lookAt_167 : decode (jm_cod M_Ref_lookAt) 167 = .ok (.aload_n 0, 1) := dt_Ref_lookAt_c3 21
theorem d_Ref_lookAt_168 : decode (jm_cod M_Ref_lookAt) 168 = .ok (.iload_n 1, 1) := dt_Ref_lookAt_c3 22
theorem d_Ref_lookAt_169 : decode (jm_cod M_Ref_lookAt) 169 = .ok (.bipush 11, 2) := dt_Ref_lookAt_c3 23
def tab_Ref_lookAt_c4 : List (Nat × Instr × Nat) := [(171, .iload_n 2, 1), (172, .invokevirtual 415, 3), (175, .goto 116, 3), (178, .iload_n 2, 1), (179, .iconst 4, 1), (180, .if_icmp .ne 111, 3), (183, .aload_n 0, 1), (184, .iload_n 1, 1), (185, .iload 8, 2), (187, .invokevirtual 425, 3), (190, .istore 10, 2), (192, .iload 10, 2), (194, .iconst (-1), 1), (195, .if_icmp .ne 14, 3), (198, .aload_n 0, 1), (199, .iload_n 1, 1), (200, .bipush 10, 2), (202, .iload_n 2, 1), (203, .invokevirtual 415, 3), (206, .goto 85, 3), (209, .aload_n 0, 1), (210, .getfield 271, 3), (213, .iload 10, 2), (215, .iaload, 1)]
theorem dt_Ref_lookAt_c4 (i : Nat) : decode (jm_cod M_Ref_lookAt) (tab_Ref_lookAt_c4.getD i (171, .iload_n 2, 1)).1 = .ok ((tab_Ref_lookAt_c4.getD i (171, .iload_n 2, 1)).2.1, (tab_Ref_lookAt_c4.getD i (171, .iload_n 2, 1)).2.2) := j_tab (by decide +kernel) i
theorem d_Ref_lookAt_171 : decode (jm_cod M_Ref_lookAt) 171 = .ok (.iload_n 2, 1) := dt_Ref_lookAt_c4 0
theorem d_Ref_lookAt_172 : decode (jm_cod M_Ref_lookAt) 172 = .ok (.invokevirtual 415, 3) := dt_Ref_lookAt_c4 1
theorem d_Ref_lookAt_175 : decode (jm_cod M_Ref_lookAt) 175 = .ok (.goto 116, 3) := dt_Ref_lookAt_c4 2
theorem d_Ref_lookAt_178 : decode (jm_cod M_Ref_lookAt) 178 = .ok (.iload_n 2, 1) := dt_Ref_lookAt_c4 3
theorem d_Ref_lookAt_179 : decode (jm_cod M_Ref_lookAt) 179 = .ok (.iconst 4, 1) := dt_Ref_lookAt_c4 4
theorem d_Ref_lookAt_180 : decode (jm_cod M_Ref_lookAt) 180 = .ok (.if_icmp .ne 111, 3) := dt_Ref_lookAt_c4 5
theorem d_Ref_lookAt_183 : decode (jm_cod M_Ref_lookAt) 183 = .ok (.aload_n 0, 1) := dt_Ref_lookAt_c4 6
theorem d_Ref_lookAt_184 : decode (jm_cod M_Ref_lookAt) 184 = .ok (.iload_n 1, 1) := dt_Ref_lookAt_c4 7
theorem d_Ref_lookAt_185 : decode (jm_cod M_Ref_lookAt) 185 = .ok (.iload 8, 2) := dt_Ref_lookAt_c4 8
theorem d_Ref_lookAt_187 : decode (jm_cod M_Ref_lookAt) 187 = .ok (.invokevirtual 425, 3) := dt_Ref_lookAt_c4 9
theorem d_Ref_lookAt_190 : decode (jm_cod M_Ref_lookAt) 190 = .ok (.istore 10, 2) := dt_Ref_lookAt_c4 10
theorem d_Ref_lookAt_192 : decode (jm_cod M_Ref_lookAt) 192 = .ok (.iload 10, 2) := dt_Ref_lookAt_c4 11
theorem d_Ref_lookAt_194 : decode (jm_cod M_Ref_lookAt) 194 = .ok (.iconst (-1), 1) := dt_Ref_lookAt_c4 12
theorem d_Ref_lookAt_195 : decode (jm_cod M_Ref_lookAt) 195 = .ok (.if_icmp .ne 14, 3) := dt_Ref_lookAt_c4 13
theorem d_Ref_lookAt_198 : decode (jm_cod M_Ref_lookAt) 198 = .ok (.aload_n 0, 1) := dt_Ref_lookAt_c4 14
theorem d_Ref_lookAt_199 : decode (jm_cod M_Ref_lookAt) 199 = .ok (.iload_n 1, 1) := dt_Ref_lookAt_c4 15
theorem d_Ref_lookAt_200 : decode (jm_cod M_Ref_lookAt) 200 = .ok (.bipush 10, 2) := dt_Ref_lookAt_c4 16
theorem d_Ref_lookAt_202 : decode (jm_cod M_Ref_lookAt) 202 = .ok (.iload_n 2, 1) := dt_Ref_lookAt_c4 17
theorem d_Ref_lookAt_203 : decode (jm_cod M_Ref_lookAt) 203 = .ok (.invokevirtual 415, 3) := dt_Ref_lookAt_c4 18
theorem d_Ref_lookAt_206 : decode (jm_cod M_Ref_lookAt) 206 = .ok (.goto 85, 3) := dt_Ref_lookAt_c4 19
theorem d_Ref_lookAt_209 : decode (jm_cod M_Ref_lookAt) 209 = .ok (.aload_n 0, 1) := dt_Ref_lookAt_c4 20
theorem d_Ref_lookAt_210 : decode (jm_cod M_Ref_lookAt) 210 = .ok (.getfield 271, 3) := dt_Ref_lookAt_c4 21
theorem d_Ref_lookAt_213 : decode (jm_cod M_Ref_lookAt) 213 = .ok (.iload 10, 2) := dt_Ref_lookAt_c4 22
theorem d_Ref_lookAt_215 : decode (jm_cod M_Ref_lookAt) 215 = .ok (.iaload, 1) := dt_Ref_lookAt_c4 23
def tab_Ref_lookAt_c5 : List (Nat × Instr × Nat) := [(216, .aload_n 0, 1), (217, .getfield 268, 3), (220, .iload 10, 2), (222, .laload, 1), (223, .invokestatic 321, 3), (226, .iconst 1, 1), (227, .isub, 1), (228, .if_icmp .ne 7, 3), (231, .iconst 1, 1), (232, .goto 4, 3), (235, .iconst 0, 1), (236, .iload 6, 2), (238, .sipush 256, 3), (241, .iand, 1), (242, .ifCond .eq 7, 3), (245, .iconst 1, 1), (246, .goto 4, 3), (249, .iconst 0, 1), (250, .if_icmp .eq 14, 3), (253, .aload_n 0, 1), (254, .iload_n 1, 1), (255, .bipush 7, 2), (257, .iload_n 2, 1), (258, .invokevirtual 415, 3)]
theorem dt_Ref_lookAt_c5 (i : Nat) : decode (jm_cod M_Ref_lookAt) (tab_Ref_lookAt_c5.getD i (216, .aload_n 0, 1)).1 = .ok ((tab_Ref_lookAt_c5.getD i (216, .aload_n 0, 1)).2.1, (tab_Ref_lookAt_c5.getD i (216, .aload_n 0, 1)).2.2) := j_tab (by decide +kernel) i
theorem d_Ref_lookAt_216 : decode (jm_cod M_Ref_lookAt) 216 = .ok (.aload_n 0, 1) := dt_Ref_lookAt_c5 0
theorem d_Ref_lookAt_217 : decode (jm_cod M_Ref_lookAt) 217 = .ok (.getfield 268, 3) := dt_Ref_lookAt_c5 1
theorem d_Ref_lookAt_220 : decode (jm_cod M_Ref_lookAt) 220 = .ok (.iload 10, 2) := dt_Ref_lookAt_c5 2
theorem d_Ref_lookAt_222 : decode (jm_cod M_Ref_lookAt) 222 = .ok (.laload, 1) := dt_Ref_lookAt_c5 3
theorem d_Ref_lookAt_223 : decode (jm_cod M_Ref_lookAt) 223 = .ok (.invokestatic 321, 3) := dt_Ref_lookAt_c5 4
theorem d_Ref_lookAt_226 : decode (jm_cod M_Ref_lookAt) 226 = .ok (.iconst 1, 1) := dt_Ref_lookAt_c5 5
theorem d_Ref_lookAt_227 : decode (jm_cod M_Ref_lookAt) 227 = .ok (.isub, 1) := dt_Ref_lookAt_c5 6
theorem d_Ref_lookAt_228 : decode (jm_cod M_Ref_lookAt) 228 = .ok (.if_icmp .ne 7, 3) := dt_Ref_lookAt_c5 7
theorem d_Ref_lookAt_231 : decode (jm_cod M_Ref_lookAt) 231 = .ok (.iconst 1, 1) := dt_Ref_lookAt_c5 8
theorem d_Ref_lookAt_232 : decode (jm_cod M_Ref_lookAt) 232 = .ok (.goto 4, 3) := dt_Ref_lookAt_c5 9
theorem d_Ref_lookAt_235 : decode (jm_cod M_Ref_lookAt) 235 = .ok (.iconst 0, 1) := dt_Ref_lookAt_c5 10
theorem d_Ref_lookAt_236 : decode (jm_cod M_Ref_lookAt) 236 = .ok (.iload 6, 2) := dt_Ref_lookAt_c5 11
theorem d_Ref_lookAt_238 : decode (jm_cod M_Ref_lookAt) 238 = .ok (.sipush 256, 3) := dt_Ref_lookAt_c5 12
theorem d_Ref_lookAt_241 : decode (jm_cod M_Ref_lookAt) 241 = .ok (.iand, 1) := dt_Ref_lookAt_c5 13
theorem d_Ref_lookAt_242 : decode (jm_cod M_Ref_lookAt) 242 = .ok (.ifCond .eq 7, 3) := dt_Ref_lookAt_c5 14
theorem d_Ref_lookAt_245 : decode (jm_cod M_Ref_lookAt) 245 = .ok (.iconst 1, 1) := dt_Ref_lookAt_c5 15
theorem d_Ref_lookAt_246 : decode (jm_cod M_Ref_lookAt) 246 = .ok (.goto 4, 3) := dt_Ref_lookAt_c5 16
theorem d_Ref_lookAt_249 : decode (jm_cod M_Ref_lookAt) 249 = .ok (.iconst 0, 1) := dt_Ref_lookAt_c5 17
theorem d_Ref_lookAt_250 : decode (jm_cod M_Ref_lookAt) 250 = .ok (.if_icmp .eq 14, 3) := dt_Ref_lookAt_c5 18
theorem d_Ref_lookAt_253 : decode (jm_cod M_Ref_lookAt) 253 = .ok (.aload_n 0, 1) := dt_Ref_lookAt_c5 19
theorem d_Ref_lookAt_254 : decode (jm_cod M_Ref_lookAt) 254 = .ok (.iload_n 1, 1) := dt_Ref_lookAt_c5 20
theorem d_Ref_lookAt_255 : decode (jm_cod M_Ref_lookAt) 255 = .ok (.bipush 7, 2) := dt_Ref_lookAt_c5 21
theorem d_Ref_lookAt_257 : decode (jm_cod M_Ref_lookAt) 257 = .ok (.iload_n 2, 1) := dt_Ref_lookAt_c5 22
theorem d_Ref_lookAt_258 : decode (jm_cod M_Ref_lookAt) 258 = .ok (.invokevirtual 415, 3) := dt_Ref_lookAt_c5 23
def tab_Ref_lookAt_c6 : List (Nat × Instr × Nat) := [(261, .goto 30, 3), (264, .iload 9, 2), (266, .iconst 1, 1), (267, .if_icmp .ne 24, 3), (270, .aload_n 0, 1), (271, .getfield 268, 3), (274, .iload 10, 2), (276, .laload, 1), (277, .invokestatic 329, 3), (280, .ifCond .ne 11, 3), (283, .aload_n 0, 1), (284, .iload_n 1, 1), (285, .bipush 11, 2), (287, .iload_n 2, 1), (288, .invokevirtual 415, 3), (291, .return_, 1)]
theorem dt_Ref_lookAt_c6 (i : Nat) : decode (jm_cod M_Ref_lookAt) (tab_Ref_lookAt_c6.getD i (261, .goto 30, 3)).1 = .ok ((tab_Ref_lookAt_c6.getD i (261, .goto 30, 3)).2.1, (tab_Ref_lookAt_c6.getD i (261, .goto 30, 3)).2.2) := j_tab (by decide +kernel) i
theorem d_Ref_lookAt_261 : decode (jm_cod M_Ref_lookAt) 261 = .ok (.goto 30, 3) := dt_Ref_lookAt_c6 0
theorem d_Ref_lookAt_264 : decode (jm_cod M_Ref_lookAt) 264 = .ok (.iload 9, 2) := dt_Ref_lookAt_c6 1
theorem d_Ref_lookAt_266 : decode (jm_cod M_Ref_lookAt) 266 = .ok (.iconst 1, 1) := dt_Ref_lookAt_c6 2
theorem d_Ref_lookAt_267 : decode (jm_cod M_Ref_lookAt) 267 = .ok (.if_icmp .ne 24, 3) := dt_Ref_lookAt_c6 3
theorem d_Ref_lookAt_270 : decode (jm_cod M_Ref_lookAt) 270 = .ok (.aload_n 0, 1) := dt_Ref_lookAt_c6 4
theorem d_Ref_lookAt_271 : decode (jm_cod M_Ref_lookAt) 271 = .ok (.getfield 268, 3) := dt_Ref_lookAt_c6 5
theorem d_Ref_lookAt_274 : decode (jm_cod M_Ref_lookAt) 274 = .ok (.iload 10, 2) := dt_Ref_lookAt_c6 6
theorem d_Ref_lookAt_276 : decode (jm_cod M_Ref_lookAt) 276 = .ok (.laload, 1) := dt_Ref_lookAt_c6 7
theorem d_Ref_lookAt_277 : decode (jm_cod M_Ref_lookAt) 277 = .ok (.invokestatic 329, 3) := dt_Ref_lookAt_c6 8
theorem d_Ref_lookAt_280 : decode (jm_cod M_Ref_lookAt) 280 = .ok (.ifCond .ne 11, 3) := dt_Ref_lookAt_c6 9
theorem d_Ref_lookAt_283 : decode (jm_cod M_Ref_lookAt) 283 = .ok (.aload_n 0, 1) := dt_Ref_lookAt_c6 10
theorem d_Ref_lookAt_284 : decode (jm_cod M_Ref_lookAt) 284 = .ok (.iload_n 1, 1) := dt_Ref_lookAt_c6 11
theorem d_Ref_lookAt_285 : decode (jm_cod M_Ref_lookAt) 285 = .ok (.bipush 11, 2) := dt_Ref_lookAt_c6 12
theorem d_Ref_lookAt_287 : decode (jm_cod M_Ref_lookAt) 287 = .ok (.iload_n 2, 1) := dt_Ref_lookAt_c6 13
theorem d_Ref_lookAt_288 : decode (jm_cod M_Ref_lookAt) 288 = .ok (.invokevirtual 415, 3) := dt_Ref_lookAt_c6 14
theorem d_Ref_lookAt_291 : decode (jm_cod M_Ref_lookAt) 291 = .ok (.return_, 1) := dt_Ref_lookAt_c6 15
def tab_Ref_breakAt_c0 : List (Nat × Instr × Nat) := [(0, .aload_n 0, 1), (1, .getfield 238, 3), (4, .iload_n 1, 1), (5, .iaload, 1), (6, .ifCond .ne 29, 3), (9, .aload_n 0, 1), (10, .getfield 238, 3), (13, .iload_n 1, 1), (14, .iload_n 2, 1), (15, .iastore, 1), (16, .aload_n 0, 1), (17, .getfield 241, 3), (20, .iload_n 1, 1), (21, .iload_n 3, 1), (22, .iastore, 1), (23, .aload_n 0, 1), (24, .getfield 244, 3), (27, .iload_n 1, 1), (28, .aload_n 0, 1), (29, .getfield 235, 3), (32, .iload_n 1, 1), (33, .iaload, 1), (34, .iastore, 1), (35, .return_, 1)]
theorem dt_Ref_breakAt_c0 (i : Nat) : decode (jm_cod M_Ref_breakAt) (tab_Ref_breakAt_c0.getD i (0, .aload_n 0, 1)).1 = .ok ((tab_Ref_breakAt_c0.getD i (0, .aload_n 0, 1)).2.1, (tab_Ref_breakAt_c0.getD i (0, .aload_n 0, 1)).2.2) := j_tab (by decide +kernel) i
theorem d_Ref_breakAt_0 : decode (jm_cod M_Ref_breakAt) 0 = .ok (.aload_n 0, 1) := dt_Ref_breakAt_c0 0
theorem d_Ref_breakAt_1 : decode (jm_cod M_Ref_breakAt) 1 = .ok (.getfield 238, 3) := dt_Ref_breakAt_c0 1
theorem d_Ref_breakAt_4 : decode (jm_cod M_Ref_breakAt) 4 = .ok (.iload_n 1, 1) := dt_Ref_breakAt_c0 2
theorem d_Ref_breakAt_5 : decode (jm_cod M_Ref_breakAt) 5 = .ok (.iaload, 1) := dt_Ref_breakAt_c0 3
theorem d_Ref_breakAt_6 : decode (jm_cod M_Ref_breakAt) 6 = .ok (.ifCond .ne 29, 3) := dt_Ref_breakAt_c0 4
theorem d_Ref_breakAt_9 : decode (jm_cod M_Ref_breakAt) 9 = .ok (.aload_n 0, 1) := dt_Ref_breakAt_c0 5
theorem d_Ref_breakAt_10 : decode (jm_cod M_Ref_breakAt) 10 = .ok (.getfield 238, 3) := dt_Ref_breakAt_c0 6
theorem d_Ref_breakAt_13 : decode (jm_cod M_Ref_breakAt) 13 = .ok (.iload_n 1, 1) := dt_Ref_breakAt_c0 7
theorem d_Ref_breakAt_14 : decode (jm_cod M_Ref_breakAt) 14 = .ok (.iload_n 2, 1) := dt_Ref_breakAt_c0 8
theorem d_Ref_breakAt_15 : decode (jm_cod M_Ref_breakAt) 15 = .ok (.iastore, 1) := dt_Ref_breakAt_c0 9
theorem d_Ref_breakAt_16 : decode (jm_cod M_Ref_breakAt) 16 = .ok (.aload_n 0, 1) := dt_Ref_breakAt_c0 10
theorem d_Ref_breakAt_17 : decode (jm_cod M_Ref_breakAt) 17 = .ok (.getfield 241, 3) := dt_Ref_breakAt_c0 11
theorem d_Ref_breakAt_20 : decode (jm_cod M_Ref_breakAt) 20 = .ok (.iload_n 1, 1) := dt_Ref_breakAt_c0 12
theorem d_Ref_breakAt_21 : decode (jm_cod M_Ref_breakAt) 21 = .ok (.iload_n 3, 1) := dt_Ref_breakAt_c0 13
theorem d_Ref_breakAt_22 : decode (jm_cod M_Ref_breakAt) 22 = .ok (.iastore, 1) := dt_Ref_breakAt_c0 14
theorem d_Ref_breakAt_23 : decode (jm_cod M_Ref_breakAt) 23 = .ok (.aload_n 0, 1) := dt_Ref_breakAt_c0 15
theorem d_Ref_breakAt_24 : decode (jm_cod M_Ref_breakAt) 24 = .ok (.getfield 244, 3) := dt_Ref_breakAt_c0 16
theorem d_Ref_breakAt_27 : decode (jm_cod M_Ref_breakAt) 27 = .ok (.iload_n 1, 1) := dt_Ref_breakAt_c0 17
theorem d_Ref_breakAt_28 : decode (jm_cod M_Ref_breakAt) 28 = .ok (.aload_n 0, 1) := dt_Ref_breakAt_c0 18
theorem d_Ref_breakAt_29 : decode (jm_cod M_Ref_breakAt) 29 = .ok (.getfield 235, 3) := dt_Ref_breakAt_c0 19
theorem d_Ref_breakAt_32 : decode (jm_cod M_Ref_breakAt) 32 = .ok (.iload_n 1, 1) := dt_Ref_breakAt_c0 20
theorem d_Ref_breakAt_33 : decode (jm_cod M_Ref_breakAt) 33 = .ok (.iaload, 1) := dt_Ref_breakAt_c0 21
theorem d_Ref_breakAt_34 : decode (jm_cod M_Ref_breakAt) 34 = .ok (.iastore, 1) := dt_Ref_breakAt_c0 22
theorem d_Ref_breakAt_35 : decode (jm_cod M_Ref_breakAt) 35 = .ok (.return_, 1) := dt_Ref_breakAt_c0 23
def tab_Ref_monitoredWrite_c0 : List (Nat × Instr × Nat) := [(0, .iconst 0, 1), (1, .istore_n 3, 1), (2, .iload_n 3, 1), (3, .aload_n 0, 1), (4, .getfield 247, 3), (7, .iload_n 1, 1), (8, .iaload, 1), (9, .if_icmp .ge 54, 3), (12, .bipush 16, 2), (14, .iload_n 1, 1), (15, .imul, 1), (16, .iload_n 3, 1), (17, .iadd, 1), (18, .istore 4, 2), (20, .aload_n 0, 1), (21, .getfield 253, 3), (24, .iload 4, 2), (26, .baload, 1), (27, .ifCond .eq 30, 3), (30, .aload_n 0, 1), (31, .getfield 262, 3), (34, .iload 4, 2), (36, .baload, 1), (37, .ifCond .eq 20, 3)]
theorem dt_Ref_monitoredWrite_c0 (i : Nat) : decode (jm_cod M_Ref_monitoredWrite) (tab_Ref_monitoredWrite_c0.getD i (0, .iconst 0, 1)).1 = .ok ((tab_Ref_monitoredWrite_c0.getD i (0, .iconst 0, 1)).2.1, (tab_Ref_monitoredWrite_c0.getD i (0, .iconst 0, 1)).2.2) := j_tab (by decide +kernel) i
theorem d_Ref_monitoredWrite_0 : decode (jm_cod M_Ref_monitoredWrite) 0 = .ok (.iconst 0, 1) := dt_Ref_monitoredWrite_c0 0
theorem d_Ref_monitoredWrite_1 : decode (jm_cod M_Ref_monitoredWrite) 1 = .ok (.istore_n 3, 1) := dt_Ref_monitoredWrite_c0 1
theorem d_Ref_monitoredWrite_2 : decode (jm_cod M_Ref_monitoredWrite) 2 = .ok (.iload_n 3, 1) := dt_Ref_monitoredWrite_c0 2
theorem d_Ref_monitoredWrite_3 : decode (jm_cod M_Ref_monitoredWrite) 3 = .ok (.aload_n 0, 1) := dt_Ref_monitoredWrite_c0 3
theorem d_Ref_monitoredWrite_4 : decode (jm_cod M_Ref_monitoredWrite) 4 = .ok (.getfield 247, 3) := dt_Ref_monitoredWrite_c0 4
theorem d_Ref_monitoredWrite_7 : decode (jm_cod M_Ref_monitoredWrite) 7 = .ok (.iload_n 1, 1) := dt_Ref_monitoredWrite_c0 5
theorem d_Ref_monitoredWrite_8 : decode (jm_cod M_Ref_monitoredWrite) 8 = .ok (.iaload, 1) := dt_Ref_monitoredWrite_c0 6
theorem d_Ref_monitoredWrite_9 : decode (jm_cod M_Ref_monitoredWrite) 9 = .ok (.if_icmp .ge 54, 3) := dt_Ref_monitoredWrite_c0 7
theorem d_Ref_monitoredWrite_12 : decode (jm_cod M_Ref_monitoredWrite) 12 = .ok (.bipush 16, 2) := dt_Ref_monitoredWrite_c0 8
theorem d_Ref_monitoredWrite_14 : decode (jm_cod M_Ref_monitoredWrite) 14 = .ok (.iload_n 1, 1) := dt_Ref_monitoredWrite_c0 9
theorem d_Ref_monitoredWrite_15 : decode (jm_cod M_Ref_monitoredWrite) 15 = .ok (.imul, 1) := dt_Ref_monitoredWrite_c0 10
theorem d_Ref_monitoredWrite_16 : decode (jm_cod M_Ref_monitoredWrite) 16 = .ok (.iload_n 3, 1) := dt_Ref_monitoredWrite_c0 11
theorem d_Ref_monitoredWrite_17 : decode (jm_cod M_Ref_monitoredWrite) 17 = .ok (.iadd, 1) := dt_Ref_monitoredWrite_c0 12
theorem d_Ref_monitoredWrite_18 : decode (jm_cod M_Ref_monitoredWrite) 18 = .ok (.istore 4, 2) := dt_Ref_monitoredWrite_c0 13
theorem d_Ref_monitoredWrite_20 : decode (jm_cod M_Ref_monitoredWrite) 20 = .ok (.aload_n 0, 1) := dt_Ref_monitoredWrite_c0 14
theorem d_Ref_monitoredWrite_21 : decode (jm_cod M_Ref_monitoredWrite) 21 = .ok (.getfield 253, 3) := dt_Ref_monitoredWrite_c0 15
theorem d_Ref_monitoredWrite_24 : decode (jm_cod M_Ref_monitoredWrite) 24 = .ok (.iload 4, 2) := dt_Ref_monitoredWrite_c0 16
theorem d_Ref_monitoredWrite_26 : decode (jm_cod M_Ref_monitoredWrite) 26 = .ok (.baload, 1) := dt_Ref_monitoredWrite_c0 17
theorem d_Ref_monitoredWrite_27 : decode (jm_cod M_Ref_monitoredWrite) 27 = .ok (.ifCond .eq 30, 3) := dt_Ref_monitoredWrite_c0 18
theorem d_Ref_monitoredWrite_30 : decode (jm_cod M_Ref_monitoredWrite) 30 = .ok (.aload_n 0, 1) := dt_Ref_monitoredWrite_c0 19
theorem d_Ref_monitoredWrite_31 : decode (jm_cod M_Ref_monitoredWrite) 31 = .ok (.getfield 262, 3) := dt_Ref_monitoredWrite_c0 20
theorem d_Ref_monitoredWrite_34 : decode (jm_cod M_Ref_monitoredWrite) 34 = .ok (.iload 4, 2) := dt_Ref_monitoredWrite_c0 21
theorem d_Ref_monitoredWrite_36 : decode (jm_cod M_Ref_monitoredWrite) 36 = .ok (.baload, 1) := dt_Ref_monitoredWrite_c0 22
theorem d_Ref_monitoredWrite_37 : decode (jm_cod M_Ref_monitoredWrite) 37 = .ok (.ifCond .eq 20, 3) := dt_Ref_monitoredWrite_c0 23
def tab_Ref_monitoredWrite_c1 : List (Nat × Instr × Nat) := [(40, .aload_n 0, 1), (41, .getfield 256, 3), (44, .iload 4, 2), (46, .laload, 1), (47, .invokestatic 396, 3), (50, .iload_n 2, 1), (51, .if_icmp .ne 6, 3), (54, .iload 4, 2), (56, .ireturn, 1), (57, .iinc 3 1, 3), (60, .goto (-58), 3), (63, .iconst (-1), 1), (64, .ireturn, 1)]
theorem dt_Ref_monitoredWrite_c1 (i : Nat) : decode (jm_cod M_Ref_monitoredWrite) (tab_Ref_monitoredWrite_c1.getD i (40, .aload_n 0, 1)).1 = .ok ((tab_Ref_monitoredWrite_c1.getD i (40, .aload_n 0, 1)).2.1, (tab_Ref_monitoredWrite_c1.getD i (40, .aload_n 0, 1)).2.2) := j_tab (by decide +kernel) i
theorem d_Ref_monitoredWrite_40 : decode (jm_cod M_Ref_monitoredWrite) 40 = .ok (.aload_n 0, 1) := dt_Ref_monitoredWrite_c1 0
theorem d_Ref_monitoredWrite_41 : decode (jm_cod M_Ref_monitoredWrite) 41 = .ok (.getfield 256, 3) := dt_Ref_monitoredWrite_c1 1
theorem d_Ref_monitoredWrite_44 : decode (jm_cod M_Ref_monitoredWrite) 44 = .ok (.iload 4, 2) := dt_Ref_monitoredWrite_c1 2
theorem d_Ref_monitoredWrite_46 : decode (jm_cod M_Ref_monitoredWrite) 46 = .ok (.laload, 1) := dt_Ref_monitoredWrite_c1 3
theorem d_Ref_monitoredWrite_47 : decode (jm_cod M_Ref_monitoredWrite) 47 = .ok (.invokestatic 396, 3) := dt_Ref_monitoredWrite_c1 4
theorem d_Ref_monitoredWrite_50 : decode (jm_cod M_Ref_monitoredWrite) 50 = .ok (.iload_n 2, 1) := dt_Ref_monitoredWrite_c1 5
theorem d_Ref_monitoredWrite_51 : decode (jm_cod M_Ref_monitoredWrite) 51 = .ok (.if_icmp .ne 6, 3) := dt_Ref_monitoredWrite_c1 6
theorem d_Ref_monitoredWrite_54 : decode (jm_cod M_Ref_monitoredWrite) 54 = .ok (.iload 4, 2) := dt_Ref_monitoredWrite_c1 7
theorem d_Ref_monitoredWrite_56 : decode (jm_cod M_Ref_monitoredWrite) 56 = .ok (.ireturn, 1) := dt_Ref_monitoredWrite_c1 8
theorem d_Ref_monitoredWrite_57 : decode (jm_cod M_Ref_monitoredWrite) 57 = .ok (.iinc 3 1, 3) := dt_Ref_monitoredWrite_c1 9
theorem d_Ref_monitoredWrite_60 : decode (jm_cod M_Ref_monitoredWrite) 60 = .ok (.goto (-58), 3) := dt_Ref_monitoredWrite_c1 10
theorem d_Ref_monitoredWrite_63 : decode (jm_cod M_Ref_monitoredWrite) 63 = .ok (.iconst (-1), 1) := dt_Ref_monitoredWrite_c1 11
theorem d_Ref_monitoredWrite_64 : decode (jm_cod M_Ref_monitoredWrite) 64 = .ok (.ireturn, 1) := dt_Ref_monitoredWrite_c1 12
def tab_Ref_monitoredRead_c0 : List (Nat × Instr × Nat) := [(0, .iconst 0, 1), (1, .istore_n 3, 1), (2, .iload_n 3, 1), (3, .aload_n 0, 1), (4, .getfield 250, 3), (7, .iload_n 1, 1), (8, .iaload, 1), (9, .if_icmp .ge 34, 3), (12, .aload_n 0, 1), (13, .getfield 268, 3), (16, .bipush 16, 2), (18, .iload_n 1, 1), (19, .imul, 1), (20, .iload_n 3, 1), (21, .iadd, 1), (22, .laload, 1), (23, .invokestatic 396, 3), (26, .iload_n 2, 1), (27, .if_icmp .ne 10, 3), (30, .bipush 16, 2), (32, .iload_n 1, 1), (33, .imul, 1), (34, .iload_n 3, 1), (35, .iadd, 1)]
theorem dt_Ref_monitoredRead_c0 (i : Nat) : decode (jm_cod M_Ref_monitoredRead) (tab_Ref_monitoredRead_c0.getD i (0, .iconst 0, 1)).1 = .ok ((tab_Ref_monitoredRead_c0.getD i (0, .iconst 0, 1)).2.1, (tab_Ref_monitoredRead_c0.getD i (0, .iconst 0, 1)).2.2) := j_tab (by decide +kernel) i
theorem d_Ref_monitoredRead_0 : decode (jm_cod M_Ref_monitoredRead) 0 = .ok (.iconst 0, 1) := dt_Ref_monitoredRead_c0 0
theorem d_Ref_monitoredRead_1 : decode (jm_cod M_Ref_monitoredRead) 1 = .ok (.istore_n 3, 1) := dt_Ref_monitoredRead_c0 1
theorem d_Ref_monitoredRead_2 : decode (jm_cod M_Ref_monitoredRead) 2 = .ok (.iload_n 3, 1) := dt_Ref_monitoredRead_c0 2
theorem d_Ref_monitoredRead_3 : decode (jm_cod M_Ref_monitoredRead) 3 = .ok (.aload_n 0, 1) := dt_Ref_monitoredRead_c0 3
theorem d_Ref_monitoredRead_4 : decode (jm_cod M_Ref_monitoredRead) 4 = .ok (.getfield 250, 3) := dt_Ref_monitoredRead_c0 4
theorem d_Ref_monitoredRead_7 : decode (jm_cod M_Ref_monitoredRead) 7 = .ok (.iload_n 1, 1) := dt_Ref_monitoredRead_c0 5
theorem d_Ref_monitoredRead_8 : decode (jm_cod M_Ref_monitoredRead) 8 = .ok (.iaload, 1) := dt_Ref_monitoredRead_c0 6
theorem d_Ref_monitoredRead_9 : decode (jm_cod M_Ref_monitoredRead) 9 = .ok (.if_icmp .ge 34, 3) := dt_Ref_monitoredRead_c0 7
theorem d_Ref_monitoredRead_12 : decode (jm_cod M_Ref_monitoredRead) 12 = .ok (.aload_n 0, 1) := dt_Ref_monitoredRead_c0 8
theorem d_Ref_monitoredRead_13 : decode (jm_cod M_Ref_monitoredRead) 13 = .ok (.getfield 268, 3) := dt_Ref_monitoredRead_c0 9
theorem d_Ref_monitoredRead_16 : decode (jm_cod M_Ref_monitoredRead) 16 = .ok (.bipush 16, 2) := dt_Ref_monitoredRead_c0 10
theorem d_Ref_monitoredRead_18 : decode (jm_cod M_Ref_monitoredRead) 18 = .ok (.iload_n 1, 1) := dt_Ref_monitoredRead_c0 11
theorem d_Ref_monitoredRead_19 : decode (jm_cod M_Ref_monitoredRead) 19 = .ok (.imul, 1) := dt_Ref_monitoredRead_c0 12
theorem d_Ref_monitoredRead_20 : decode (jm_cod M_Ref_monitoredRead) 20 = .ok (.iload_n 3, 1) := dt_Ref_monitoredRead_c0 13
theorem d_Ref_monitoredRead_21 : decode (jm_cod M_Ref_monitoredRead) 21 = .ok (.iadd, 1) := dt_Ref_monitoredRead_c0 14
theorem d_Ref_monitoredRead_22 : decode (jm_cod M_Ref_monitoredRead) 22 = .ok (.laload, 1) := dt_Ref_monitoredRead_c0 15
theorem d_Ref_monitoredRead_23 : decode (jm_cod M_Ref_monitoredRead) 23 = .ok (.invokestatic 396, 3) := dt_Ref_monitoredRead_c0 16
theorem d_Ref_monitoredRead_26 : decode (jm_cod M_Ref_monitoredRead) 26 = .ok (.iload_n 2, 1) := dt_Ref_monitoredRead_c0 17
theorem d_Ref_monitoredRead_27 : decode (jm_cod M_Ref_monitoredRead) 27 = .ok (.if_icmp .ne 10, 3) := dt_Ref_monitoredRead_c0 18
theorem d_Ref_monitoredRead_30 : decode (jm_cod M_Ref_monitoredRead) 30 = .ok (.bipush 16, 2) := dt_Ref_monitoredRead_c0 19
theorem d_Ref_monitoredRead_32 : decode (jm_cod M_Ref_monitoredRead) 32 = .ok (.iload_n 1, 1) := dt_Ref_monitoredRead_c0 20
theorem d_Ref_monitoredRead_33 : decode (jm_cod M_Ref_monitoredRead) 33 = .ok (.imul, 1) := dt_Ref_monitoredRead_c0 21
theorem d_Ref_monitoredRead_34 : decode (jm_cod M_Ref_monitoredRead) 34 = .ok (.iload_n 3, 1) := dt_Ref_monitoredRead_c0 22
theorem d_Ref_monitoredRead_35 : decode (jm_cod M_Ref_monitoredRead) 35 = .ok (.iadd, 1) := dt_Ref_monitoredRead_c0 23
def tab_Ref_monitoredRead_c1 : List (Nat × Instr × Nat) := [(36, .ireturn, 1), (37, .iinc 3 1, 3), (40, .goto (-38), 3), (43, .iconst (-1), 1), (44, .ireturn, 1)]
theorem dt_Ref_monitoredRead_c1 (i : Nat) : decode (jm_cod M_Ref_monitoredRead) (tab_Ref_monitoredRead_c1.getD i (36, .ireturn, 1)).1 = .ok ((tab_Ref_monitoredRead_c1.getD i (36, .ireturn, 1)).2.1, (tab_Ref_monitoredRead_c1.getD i (36, .ireturn, 1)).2.2) := j_tab (by decide +kernel) i
theorem d_Ref_monitoredRead_36 : decode (jm_cod M_Ref_monitoredRead) 36 = .ok (.ireturn, 1) := dt_Ref_monitoredRead_c1 0
theorem d_Ref_monitoredRead_37 : decode (jm_cod M_Ref_monitoredRead) 37 = .ok (.iinc 3 1, 3) := dt_Ref_monitoredRead_c1 1
theorem d_Ref_monitoredRead_40 : decode (jm_cod M_Ref_monitoredRead) 40 = .ok (.goto (-38), 3) := dt_Ref_monitoredRead_c1 2
theorem d_Ref_monitoredRead_43 : decode (jm_cod M_Ref_monitoredRead) 43 = .ok (.iconst (-1), 1) := dt_Ref_monitoredRead_c1 3
theorem d_Ref_monitoredRead_44 : decode (jm_cod M_Ref_monitoredRead) 44 = .ok (.ireturn, 1) := dt_Ref_monitoredRead_c1 4
def tab_Ref_go_c0 : List (Nat × Instr × Nat) := [(0, .aload_n 0, 1), (1, .iload_n 2, 1), (2, .iconst 2, 1), (3, .iadd, 1), (4, .iload_n 3, 1), (5, .invokevirtual 449, 3), (8, .ifCond .eq 34, 3), (11, .aload_n 0, 1), (12, .iload_n 1, 1), (13, .iload_n 3, 1), (14, .ifCond .eq 14, 3), (17, .aload_n 0, 1), (18, .getfield 283, 3), (21, .iload_n 2, 1), (22, .iconst 2, 1), (23, .iadd, 1), (24, .iaload, 1), (25, .goto 11, 3), (28, .aload_n 0, 1), (29, .getfield 97, 3), (32, .iload_n 2, 1), (33, .iconst 2, 1), (34, .iadd, 1), (35, .iaload, 1)]
theorem dt_Ref_go_c0 (i : Nat) : decode (jm_cod M_Ref_go) (tab_Ref_go_c0.getD i (0, .aload_n 0, 1)).1 = .ok ((tab_Ref_go_c0.getD i (0, .aload_n 0, 1)).2.1, (tab_Ref_go_c0.getD i (0, .aload_n 0, 1)).2.2) := j_tab (by decide +kernel) i
theorem d_Ref_go_0 : decode (jm_cod M_Ref_go) 0 = .ok (.aload_n 0, 1) := dt_Ref_go_c0 0
theorem d_Ref_go_1 : decode (jm_cod M_Ref_go) 1 = .ok (.iload_n 2, 1) := dt_Ref_go_c0 1
theorem d_Ref_go_2 : decode (jm_cod M_Ref_go) 2 = .ok (.iconst 2, 1) := dt_Ref_go_c0 2
theorem d_Ref_go_3 : decode (jm_cod M_Ref_go) 3 = .ok (.iadd, 1) := dt_Ref_go_c0 3
theorem d_Ref_go_4 : decode (jm_cod M_Ref_go) 4 = .ok (.iload_n 3, 1) := dt_Ref_go_c0 4
theorem d_Ref_go_5 : decode (jm_cod M_Ref_go) 5 = .ok (.invokevirtual 449, 3) := dt_Ref_go_c0 5
theorem d_Ref_go_8 : decode (jm_cod M_Ref_go) 8 = .ok (.ifCond .eq 34, 3) := dt_Ref_go_c0 6
theorem d_Ref_go_11 : decode (jm_cod M_Ref_go) 11 = .ok (.aload_n 0, 1) := dt_Ref_go_c0 7
theorem d_Ref_go_12 : decode (jm_cod M_Ref_go) 12 = .ok (.iload_n 1, 1) := dt_Ref_go_c0 8
theorem d_Ref_go_13 : decode (jm_cod M_Ref_go) 13 = .ok (.iload_n 3, 1) := dt_Ref_go_c0 9
theorem d_Ref_go_14 : decode (jm_cod M_Ref_go) 14 = .ok (.ifCond .eq 14, 3) := dt_Ref_go_c0 10
theorem d_Ref_go_17 : decode (jm_cod M_Ref_go) 17 = .ok (.aload_n 0, 1) := dt_Ref_go_c0 11
theorem d_Ref_go_18 : decode (jm_cod M_Ref_go) 18 = .ok (.getfield 283, 3) := dt_Ref_go_c0 12
theorem d_Ref_go_21 : decode (jm_cod M_Ref_go) 21 = .ok (.iload_n 2, 1) := dt_Ref_go_c0 13
theorem d_Ref_go_22 : decode (jm_cod M_Ref_go) 22 = .ok (.iconst 2, 1) := dt_Ref_go_c0 14
theorem d_Ref_go_23 : decode (jm_cod M_Ref_go) 23 = .ok (.iadd, 1) := dt_Ref_go_c0 15
theorem d_Ref_go_24 : decode (jm_cod M_Ref_go) 24 = .ok (.iaload, 1) := dt_Ref_go_c0 16
theorem d_Ref_go_25 : decode (jm_cod M_Ref_go) 25 = .ok (.goto 11, 3) := dt_Ref_go_c0 17
theorem d_Ref_go_28 : decode (jm_cod M_Ref_go) 28 = .ok (.aload_n 0, 1) := dt_Ref_go_c0 18
theorem d_Ref_go_29 : decode (jm_cod M_Ref_go) 29 = .ok (.getfield 97, 3) := dt_Ref_go_c0 19
theorem d_Ref_go_32 : decode (jm_cod M_Ref_go) 32 = .ok (.iload_n 2, 1) := dt_Ref_go_c0 20
theorem d_Ref_go_33 : decode (jm_cod M_Ref_go) 33 = .ok (.iconst 2, 1) := dt_Ref_go_c0 21
theorem d_Ref_go_34 : decode (jm_cod M_Ref_go) 34 = .ok (.iadd, 1) := dt_Ref_go_c0 22
theorem d_Ref_go_35 : decode (jm_cod M_Ref_go) 35 = .ok (.iaload, 1) := dt_Ref_go_c0 23
def tab_Ref_go_c1 : List (Nat × Instr × Nat) := [(36, .bipush 63, 2), (38, .iand, 1), (39, .invokevirtual 453, 3), (42, .aload_n 0, 1), (43, .iload_n 2, 1), (44, .iconst 4, 1), (45, .iadd, 1), (46, .iload_n 3, 1), (47, .invokevirtual 449, 3), (50, .ifCond .eq 34, 3), (53, .aload_n 0, 1), (54, .iload_n 1, 1), (55, .iload_n 3, 1), (56, .ifCond .eq 14, 3), (59, .aload_n 0, 1), (60, .getfield 283, 3), (63, .iload_n 2, 1), (64, .iconst 4, 1), (65, .iadd, 1), (66, .iaload, 1), (67, .goto 11, 3), (70, .aload_n 0, 1), (71, .getfield 97, 3), (74, .iload_n 2, 1)]
theorem dt_Ref_go_c1 (i : Nat) : decode (jm_cod M_Ref_go) (tab_Ref_go_c1.getD i (36, .bipush 63, 2)).1 = .ok ((tab_Ref_go_c1.getD i (36, .bipush 63, 2)).2.1, (tab_Ref_go_c1.getD i (36, .bipush 63, 2)).2.2) := j_tab (by decide +kernel) i
theorem d_Ref_go_36 : decode (jm_cod M_Ref_go) 36 = .ok (.bipush 63, 2) := dt_Ref_go_c1 0
theorem d_Ref_go_38 : decode (jm_cod M_Ref_go) 38 = .ok (.iand, 1) := dt_Ref_go_c1 1
theorem d_Ref_go_39 : decode (jm_cod M_Ref_go) 39 = .ok (.invokevirtual 453, 3) := dt_Ref_go_c1 2
theorem d_Ref_go_42 : decode (jm_cod M_Ref_go) 42 = .ok (.aload_n 0, 1) := dt_Ref_go_c1 3
theorem d_Ref_go_43 : decode (jm_cod M_Ref_go) 43 = .ok (.iload_n 2, 1) := dt_Ref_go_c1 4
theorem d_Ref_go_44 : decode (jm_cod M_Ref_go) 44 = .ok (.iconst 4, 1) := dt_Ref_go_c1 5
theorem d_Ref_go_45 : decode (jm_cod M_Ref_go) 45 = .ok (.iadd, 1) := dt_Ref_go_c1 6
theorem d_Ref_go_46 : decode (jm_cod M_Ref_go) 46 = .ok (.iload_n 3, 1) := dt_Ref_go_c1 7
theorem d_Ref_go_47 : decode (jm_cod M_Ref_go) 47 = .ok (.invokevirtual 449, 3) := dt_Ref_go_c1 8
theorem d_Ref_go_50 : decode (jm_cod M_Ref_go) 50 = .ok (.ifCond .eq 34, 3) := dt_Ref_go_c1 9
theorem d_Ref_go_53 : decode (jm_cod M_Ref_go) 53 = .ok (.aload_n 0, 1) := dt_Ref_go_c1 10
theorem d_Ref_go_54 : decode (jm_cod M_Ref_go) 54 = .ok (.iload_n 1, 1) := dt_Ref_go_c1 11
theorem d_Ref_go_55 : decode (jm_cod M_Ref_go) 55 = .ok (.iload_n 3, 1) := dt_Ref_go_c1 12
theorem d_Ref_go_56 : decode (jm_cod M_Ref_go) 56 = .ok (.ifCond .eq 14, 3) := dt_Ref_go_c1 13
theorem d_Ref_go_59 : decode (jm_cod M_Ref_go) 59 = .ok (.aload_n 0, 1) := dt_Ref_go_c1 14
theorem d_Ref_go_60 : decode (jm_cod M_Ref_go) 60 = .ok (.getfield 283, 3) := dt_Ref_go_c1 15
theorem d_Ref_go_63 : decode (jm_cod M_Ref_go) 63 = .ok (.iload_n 2, 1) := dt_Ref_go_c1 16
theorem d_Ref_go_64 : decode (jm_cod M_Ref_go) 64 = .ok (.iconst 4, 1) := dt_Ref_go_c1 17
theorem d_Ref_go_65 : decode (jm_cod M_Ref_go) 65 = .ok (.iadd, 1) := dt_Ref_go_c1 18
theorem d_Ref_go_66 : decode (jm_cod M_Ref_go) 66 = .ok (.iaload, 1) := dt_Ref_go_c1 19
theorem d_Ref_go_67 : decode (jm_cod M_Ref_go) 67 = .ok (.goto 11, 3) := dt_Ref_go_c1 20
theorem d_Ref_go_70 : decode (jm_cod M_Ref_go) 70 = .ok (.aload_n 0, 1) := dt_Ref_go_c1 21
theorem d_Ref_go_71 : decode (jm_cod M_Ref_go) 71 = .ok (.getfield 97, 3) := dt_Ref_go_c1 22
theorem d_Ref_go_74 : decode (jm_cod M_Ref_go) 74 = .ok (.iload_n 2, 1) := dt_Ref_go_c1 23
def tab_Ref_go_c2 : List (Nat × Instr × Nat) := [(75, .iconst 4, 1), (76, .iadd, 1), (77, .iaload, 1), (78, .bipush 63, 2), (80, .iand, 1), (81, .invokevirtual 456, 3), (84, .aload_n 0, 1), (85, .iload_n 2, 1), (86, .iconst 3, 1), (87, .iadd, 1), (88, .iload_n 3, 1), (89, .invokevirtual 449, 3), (92, .ifCond .eq 31, 3), (95, .aload_n 0, 1), (96, .iload_n 1, 1), (97, .iload_n 3, 1), (98, .ifCond .eq 14, 3), (101, .aload_n 0, 1), (102, .getfield 280, 3), (105, .iload_n 2, 1), (106, .iconst 3, 1), (107, .iadd, 1), (108, .laload, 1), (109, .goto 11, 3)]
theorem dt_Ref_go_c2 (i : Nat) : decode (jm_cod M_Ref_go) (tab_Ref_go_c2.getD i (75, .iconst 4, 1)).1 = .ok ((tab_Ref_go_c2.getD i (75, .iconst 4, 1)).2.1, (tab_Ref_go_c2.getD i (75, .iconst 4, 1)).2.2) := j_tab (by decide +kernel) i
theorem d_Ref_go_75 : decode (jm_cod M_Ref_go) 75 = .ok (.iconst 4, 1) := dt_Ref_go_c2 0
theorem d_Ref_go_76 : decode (jm_cod M_Ref_go) 76 = .ok (.iadd, 1) := dt_Ref_go_c2 1
theorem d_Ref_go_77 : decode (jm_cod M_Ref_go) 77 = .ok (.iaload, 1) := dt_Ref_go_c2 2
theorem d_Ref_go_78 : decode (jm_cod M_Ref_go) 78 = .ok (.bipush 63, 2) := dt_Ref_go_c2 3
theorem d_Ref_go_80 : decode (jm_cod M_Ref_go) 80 = .ok (.iand, 1) := dt_Ref_go_c2 4
theorem d_Ref_go_81 : decode (jm_cod M_Ref_go) 81 = .ok (.invokevirtual 456, 3) := dt_Ref_go_c2 5
theorem d_Ref_go_84 : decode (jm_cod M_Ref_go) 84 = .ok (.aload_n 0, 1) := dt_Ref_go_c2 6
theorem d_Ref_go_85 : decode (jm_cod M_Ref_go) 85 = .ok (.iload_n 2, 1) := dt_Ref_go_c2 7
theorem d_Ref_go_86 : decode (jm_cod M_Ref_go) 86 = .ok (.iconst 3, 1) := dt_Ref_go_c2 8
theorem d_Ref_go_87 : decode (jm_cod M_Ref_go) 87 = .ok (.iadd, 1) := dt_Ref_go_c2 9
theorem d_Ref_go_88 : decode (jm_cod M_Ref_go) 88 = .ok (.iload_n 3, 1) := dt_Ref_go_c2 10
theorem d_Ref_go_89 : decode (jm_cod M_Ref_go) 89 = .ok (.invokevirtual 449, 3) := dt_Ref_go_c2 11
theorem d_Ref_go_92 : decode (jm_cod M_Ref_go) 92 = .ok (.ifCond .eq 31, 3) := dt_Ref_go_c2 12
theorem d_Ref_go_95 : decode (jm_cod M_Ref_go) 95 = .ok (.aload_n 0, 1) := dt_Ref_go_c2 13
theorem d_Ref_go_96 : decode (jm_cod M_Ref_go) 96 = .ok (.iload_n 1, 1) := dt_Ref_go_c2 14
theorem d_Ref_go_97 : decode (jm_cod M_Ref_go) 97 = .ok (.iload_n 3, 1) := dt_Ref_go_c2 15
theorem d_Ref_go_98 : decode (jm_cod M_Ref_go) 98 = .ok (.ifCond .eq 14, 3) := dt_Ref_go_c2 16
theorem d_Ref_go_101 : decode (jm_cod M_Ref_go) 101 = .ok (.aload_n 0, 1) := dt_Ref_go_c2 17
theorem d_Ref_go_102 : decode (jm_cod M_Ref_go) 102 = .ok (.getfield 280, 3) := dt_Ref_go_c2 18
theorem d_Ref_go_105 : decode (jm_cod M_Ref_go) 105 = .ok (.iload_n 2, 1) := dt_Ref_go_c2 19
theorem d_Ref_go_106 : decode (jm_cod M_Ref_go) 106 = .ok (.iconst 3, 1) := dt_Ref_go_c2 20
theorem d_Ref_go_107 : decode (jm_cod M_Ref_go) 107 = .ok (.iadd, 1) := dt_Ref_go_c2 21
theorem d_Ref_go_108 : decode (jm_cod M_Ref_go) 108 = .ok (.laload, 1) := dt_Ref_go_c2 22
theorem d_Ref_go_109 : decode (jm_cod M_Ref_go) 109 = .ok (.goto 11, 3) := dt_Ref_go_c2 23
def tab_Ref_go_c3 : List (Nat × Instr × Nat) := [(112, .aload_n 0, 1), (113, .getfield 94, 3), (116, .iload_n 2, 1), (117, .iconst 3, 1), (118, .iadd, 1), (119, .laload, 1), (120, .invokevirtual 459, 3), (123, .aload_n 0, 1), (124, .getfield 238, 3), (127, .iload_n 1, 1), (128, .iaload, 1), (129, .ifCond .ne 42, 3), (132, .aload_n 0, 1), (133, .iload_n 2, 1), (134, .iconst 0, 1), (135, .iadd, 1), (136, .iload_n 3, 1), (137, .invokevirtual 449, 3), (140, .ifCond .eq 31, 3), (143, .aload_n 0, 1), (144, .iload_n 1, 1), (145, .iload_n 3, 1), (146, .ifCond .eq 14, 3), (149, .aload_n 0, 1)]
theorem dt_Ref_go_c3 (i : Nat) : decode (jm_cod M_Ref_go) (tab_Ref_go_c3.getD i (112, .aload_n 0, 1)).1 = .ok ((tab_Ref_go_c3.getD i (112, .aload_n 0, 1)).2.1, (tab_Ref_go_c3.getD i (112, .aload_n 0, 1)).2.2) := j_tab (by decide +kernel) i
theorem d_Ref_go_112 : decode (jm_cod M_Ref_go) 112 = .ok (.aload_n 0, 1) := dt_Ref_go_c3 0
theorem d_Ref_go_113 : decode (jm_cod M_Ref_go) 113 = .ok (.getfield 94, 3) := dt_Ref_go_c3 1
theorem d_Ref_go_116 : decode (jm_cod M_Ref_go) 116 = .ok (.iload_n 2, 1) := dt_Ref_go_c3 2
theorem d_Ref_go_117 : decode (jm_cod M_Ref_go) 117 = .ok (.iconst 3, 1) := dt_Ref_go_c3 3
theorem d_Ref_go_118 : decode (jm_cod M_Ref_go) 118 = .ok (.iadd, 1) := dt_Ref_go_c3 4
theorem d_Ref_go_119 : decode (jm_cod M_Ref_go) 119 = .ok (.laload, 1) := dt_Ref_go_c3 5
theorem d_Ref_go_120 : decode (jm_cod M_Ref_go) 120 = .ok (.invokevirtual 459, 3) := dt_Ref_go_c3 6
theorem d_Ref_go_123 : decode (jm_cod M_Ref_go) 123 = .ok (.aload_n 0, 1) := dt_Ref_go_c3 7
theorem d_Ref_go_124 : decode (jm_cod M_Ref_go) 124 = .ok (.getfield 238, 3) := dt_Ref_go_c3 8
theorem d_Ref_go_127 : decode (jm_cod M_Ref_go) 127 = .ok (.iload_n 1, 1) := dt_Ref_go_c3 9
theorem d_Ref_go_128 : decode (jm_cod M_Ref_go) 128 = .ok (.iaload, 1) := dt_Ref_go_c3 10
theorem d_Ref_go_129 : decode (jm_cod M_Ref_go) 129 = .ok (.ifCond .ne 42, 3) := dt_Ref_go_c3 11
theorem d_Ref_go_132 : decode (jm_cod M_Ref_go) 132 = .ok (.aload_n 0, 1) := dt_Ref_go_c3 12
theorem d_Ref_go_133 : decode (jm_cod M_Ref_go) 133 = .ok (.iload_n 2, 1) := dt_Ref_go_c3 13
theorem d_Ref_go_134 : decode (jm_cod M_Ref_go) 134 = .ok (.iconst 0, 1) := dt_Ref_go_c3 14
theorem d_Ref_go_135 : decode (jm_cod M_Ref_go) 135 = .ok (.iadd, 1) := dt_Ref_go_c3 15
theorem d_Ref_go_136 : decode (jm_cod M_Ref_go) 136 = .ok (.iload_n 3, 1) := dt_Ref_go_c3 16
theorem d_Ref_go_137 : decode (jm_cod M_Ref_go) 137 = .ok (.invokevirtual 449, 3) := dt_Ref_go_c3 17
theorem d_Ref_go_140 : decode (jm_cod M_Ref_go) 140 = .ok (.ifCond .eq 31, 3) := dt_Ref_go_c3 18
theorem d_Ref_go_143 : decode (jm_cod M_Ref_go) 143 = .ok (.aload_n 0, 1) := dt_Ref_go_c3 19
theorem d_Ref_go_144 : decode (jm_cod M_Ref_go) 144 = .ok (.iload_n 1, 1) := dt_Ref_go_c3 20
theorem d_Ref_go_145 : decode (jm_cod M_Ref_go) 145 = .ok (.iload_n 3, 1) := dt_Ref_go_c3 21
theorem d_Ref_go_146 : decode (jm_cod M_Ref_go) 146 = .ok (.ifCond .eq 14, 3) := dt_Ref_go_c3 22
theorem d_Ref_go_149 : decode (jm_cod M_Ref_go) 149 = .ok (.aload_n 0, 1) := dt_Ref_go_c3 23
def tab_Ref_go_c4 : List (Nat × Instr × Nat) := [(150, .getfield 280, 3), (153, .iload_n 2, 1), (154, .iconst 0, 1), (155, .iadd, 1), (156, .laload, 1), (157, .goto 11, 3), (160, .aload_n 0, 1), (161, .getfield 94, 3), (164, .iload_n 2, 1), (165, .iconst 0, 1), (166, .iadd, 1), (167, .laload, 1), (168, .invokevirtual 463, 3), (171, .aload_n 0, 1), (172, .getfield 238, 3), (175, .iload_n 1, 1), (176, .iaload, 1), (177, .ifCond .ne 42, 3), (180, .aload_n 0, 1), (181, .iload_n 2, 1), (182, .iconst 1, 1), (183, .iadd, 1), (184, .iload_n 3, 1), (185, .invokevirtual 449, 3)]
theorem dt_Ref_go_c4 (i : Nat) : decode (jm_cod M_Ref_go) (tab_Ref_go_c4.getD i (150, .getfield 280, 3)).1 = .ok ((tab_Ref_go_c4.getD i (150, .getfield 280, 3)).2.1, (tab_Ref_go_c4.getD i (150, .getfield 280, 3)).2.2) := j_tab (by decide +kernel) i
theorem d_Ref_go_150 : decode (jm_cod M_Ref_go) 150 = .ok (.getfield 280, 3) := dt_Ref_go_c4 0
theorem d_Ref_go_153 : decode (jm_cod M_Ref_go) 153 = .ok (.iload_n 2, 1) := dt_Ref_go_c4 1
theorem d_Ref_go_154 : decode (jm_cod M_Ref_go) 154 = .ok (.iconst 0, 1) := dt_Ref_go_c4 2
theorem d_Ref_go_155 : decode (jm_cod M_Ref_go) 155 = .ok (.iadd, 1) := dt_Ref_go_c4 3
theorem d_Ref_go_156 : decode (jm_cod M_Ref_go) 156 = .ok (.laload, 1) := dt_Ref_go_c4 4
theorem d_Ref_go_157 : decode (jm_cod M_Ref_go) 157 = .ok (.goto 11, 3) := dt_Ref_go_c4 5
theorem d_Ref_go_160 : decode (jm_cod M_Ref_go) 160 = .ok (.aload_n 0, 1) := dt_Ref_go_c4 6
theorem d_Ref_go_161 : decode (jm_cod M_Ref_go) 161 = .ok (.getfield 94, 3) := dt_Ref_go_c4 7
theorem d_Ref_go_164 : decode (jm_cod M_Ref_go) 164 = .ok (.iload_n 2, 1) := dt_Ref_go_c4 8
theorem d_Ref_go_165 : decode (jm_cod M_Ref_go) 165 = .ok (.iconst 0, 1) := dt_Ref_go_c4 9
theorem d_Ref_go_166 : decode (jm_cod M_Ref_go) 166 = .ok (.iadd, 1) := dt_Ref_go_c4 10
theorem d_Ref_go_167 : decode (jm_cod M_Ref_go) 167 = .ok (.laload, 1) := dt_Ref_go_c4 11
theorem d_Ref_go_168 : decode (jm_cod M_Ref_go) 168 = .ok (.invokevirtual 463, 3) := dt_Ref_go_c4 12
theorem d_Ref_go_171 : decode (jm_cod M_Ref_go) 171 = .ok (.aload_n 0, 1) := dt_Ref_go_c4 13
theorem d_Ref_go_172 : decode (jm_cod M_Ref_go) 172 = .ok (.getfield 238, 3) := dt_Ref_go_c4 14
theorem d_Ref_go_175 : decode (jm_cod M_Ref_go) 175 = .ok (.iload_n 1, 1) := dt_Ref_go_c4 15
theorem d_Ref_go_176 : decode (jm_cod M_Ref_go) 176 = .ok (.iaload, 1) := dt_Ref_go_c4 16
theorem d_Ref_go_177 : decode (jm_cod M_Ref_go) 177 = .ok (.ifCond .ne 42, 3) := dt_Ref_go_c4 17
theorem d_Ref_go_180 : decode (jm_cod M_Ref_go) 180 = .ok (.aload_n 0, 1) := dt_Ref_go_c4 18
theorem d_Ref_go_181 : decode (jm_cod M_Ref_go) 181 = .ok (.iload_n 2, 1) := dt_Ref_go_c4 19
theorem d_Ref_go_182 : decode (jm_cod M_Ref_go) 182 = .ok (.iconst 1, 1) := dt_Ref_go_c4 20
theorem d_Ref_go_183 : decode (jm_cod M_Ref_go) 183 = .ok (.iadd, 1) := dt_Ref_go_c4 21
theorem d_Ref_go_184 : decode (jm_cod M_Ref_go) 184 = .ok (.iload_n 3, 1) := dt_Ref_go_c4 22
theorem d_Ref_go_185 : decode (jm_cod M_Ref_go) 185 = .ok (.invokevirtual 449, 3) := dt_Ref_go_c4 23
def tab_Ref_go_c5 : List (Nat × Instr × Nat) := [(188, .ifCond .eq 31, 3), (191, .aload_n 0, 1), (192, .iload_n 1, 1), (193, .iload_n 3, 1), (194, .ifCond .eq 14, 3), (197, .aload_n 0, 1), (198, .getfield 283, 3), (201, .iload_n 2, 1), (202, .iconst 1, 1), (203, .iadd, 1), (204, .iaload, 1), (205, .goto 11, 3), (208, .aload_n 0, 1), (209, .getfield 97, 3), (212, .iload_n 2, 1), (213, .iconst 1, 1), (214, .iadd, 1), (215, .iaload, 1), (216, .invokevirtual 466, 3), (219, .return_, 1)]
theorem dt_Ref_go_c5 (i : Nat) : decode (jm_cod M_Ref_go) (tab_Ref_go_c5.getD i (188, .ifCond .eq 31, 3)).1 = .ok ((tab_Ref_go_c5.getD i (188, .ifCond .eq 31, 3)).2.1, (tab_Ref_go_c5.getD i (188, .ifCond .eq 31, 3)).2.2) := j_tab (by decide +kernel) i
theorem d_Ref_go_188 : decode (jm_cod M_Ref_go) 188 = .ok (.ifCond .eq 31, 3) := dt_Ref_go_c5 0
theorem d_Ref_go_191 : decode (jm_cod M_Ref_go) 191 = .ok (.aload_n 0, 1) := dt_Ref_go_c5 1
theorem d_Ref_go_192 : decode (jm_cod M_Ref_go) 192 = .ok (.iload_n 1, 1) := dt_Ref_go_c5 2
theorem d_Ref_go_193 : decode (jm_cod M_Ref_go) 193 = .ok (.iload_n 3, 1) := dt_Ref_go_c5 3
theorem d_Ref_go_194 : decode (jm_cod M_Ref_go) 194 = .ok (.ifCond .eq 14, 3) := dt_Ref_go_c5 4
theorem d_Ref_go_197 : decode (jm_cod M_Ref_go) 197 = .ok (.aload_n 0, 1) := dt_Ref_go_c5 5
theorem d_Ref_go_198 : decode (jm_cod M_Ref_go) 198 = .ok (.getfield 283, 3) := dt_Ref_go_c5 6
theorem d_Ref_go_201 : decode (jm_cod M_Ref_go) 201 = .ok (.iload_n 2, 1) := dt_Ref_go_c5 7
theorem d_Ref_go_202 : decode (jm_cod M_Ref_go) 202 = .ok (.iconst 1, 1) := dt_Ref_go_c5 8
theorem d_Ref_go_203 : decode (jm_cod M_Ref_go) 203 = .ok (.iadd, 1) := dt_Ref_go_c5 9
theorem d_Ref_go_204 : decode (jm_cod M_Ref_go) 204 = .ok (.iaload, 1) := dt_Ref_go_c5 10
theorem d_Ref_go_205 : decode (jm_cod M_Ref_go) 205 = .ok (.goto 11, 3) := dt_Ref_go_c5 11
theorem d_Ref_go_208 : decode (jm_cod M_Ref_go) 208 = .ok (.aload_n 0, 1) := dt_Ref_go_c5 12
theorem d_Ref_go_209 : decode (jm_cod M_Ref_go) 209 = .ok (.getfield 97, 3) := dt_Ref_go_c5 13
theorem d_Ref_go_212 : decode (jm_cod M_Ref_go) 212 = .ok (.iload_n 2, 1) := dt_Ref_go_c5 14
theorem d_Ref_go_213 : decode (jm_cod M_Ref_go) 213 = .ok (.iconst 1, 1) := dt_Ref_go_c5 15
theorem d_Ref_go_214 : decode (jm_cod M_Ref_go) 214 = .ok (.iadd, 1) := dt_Ref_go_c5 16
theorem d_Ref_go_215 : decode (jm_cod M_Ref_go) 215 = .ok (.iaload, 1) := dt_Ref_go_c5 17
theorem d_Ref_go_216 : decode (jm_cod M_Ref_go) 216 = .ok (.invokevirtual 466, 3) := dt_Ref_go_c5 18
theorem d_Ref_go_219 : decode (jm_cod M_Ref_go) 219 = .ok (.return_, 1) := dt_Ref_go_c5 19
def tab_Ref_goes_c0 : List (Nat × Instr × Nat) := [(0, .iload_n 2, 1), (1, .ifCond .eq 29, 3), (4, .aload_n 0, 1), (5, .getfield 274, 3), (8, .iload_n 1, 1), (9, .baload, 1), (10, .ifCond .eq 16, 3), (13, .aload_n 0, 1), (14, .getfield 277, 3), (17, .iload_n 1, 1), (18, .baload, 1), (19, .ifCond .eq 7, 3), (22, .iconst 1, 1), (23, .goto 30, 3), (26, .iconst 0, 1), (27, .goto 26, 3), (30, .aload_n 0, 1), (31, .getfield 88, 3), (34, .iload_n 1, 1), (35, .baload, 1), (36, .ifCond .eq 16, 3), (39, .aload_n 0, 1), (40, .getfield 91, 3), (43, .iload_n 1, 1)]
theorem dt_Ref_goes_c0 (i : Nat) : decode (jm_cod M_Ref_goes) (tab_Ref_goes_c0.getD i (0, .iload_n 2, 1)).1 = .ok ((tab_Ref_goes_c0.getD i (0, .iload_n 2, 1)).2.1, (tab_Ref_goes_c0.getD i (0, .iload_n 2, 1)).2.2) := j_tab (by decide +kernel) i
theorem d_Ref_goes_0 : decode (jm_cod M_Ref_goes) 0 = .ok (.iload_n 2, 1) := dt_Ref_goes_c0 0
theorem d_Ref_goes_1 : decode (jm_cod M_Ref_goes) 1 = .ok (.ifCond .eq 29, 3) := dt_Ref_goes_c0 1
theorem d_Ref_goes_4 : decode (jm_cod M_Ref_goes) 4 = .ok (.aload_n 0, 1) := dt_Ref_goes_c0 2
theorem d_Ref_goes_5 : decode (jm_cod M_Ref_goes) 5 = .ok (.getfield 274, 3) := dt_Ref_goes_c0 3
theorem d_Ref_goes_8 : decode (jm_cod M_Ref_goes) 8 = .ok (.iload_n 1, 1) := dt_Ref_goes_c0 4
theorem d_Ref_goes_9 : decode (jm_cod M_Ref_goes) 9 = .ok (.baload, 1) := dt_Ref_goes_c0 5
theorem d_Ref_goes_10 : decode (jm_cod M_Ref_goes) 10 = .ok (.ifCond .eq 16, 3) := dt_Ref_goes_c0 6
theorem d_Ref_goes_13 : decode (jm_cod M_Ref_goes) 13 = .ok (.aload_n 0, 1) := dt_Ref_goes_c0 7
theorem d_Ref_goes_14 : decode (jm_cod M_Ref_goes) 14 = .ok (.getfield 277, 3) := dt_Ref_goes_c0 8
theorem d_Ref_goes_17 : decode (jm_cod M_Ref_goes) 17 = .ok (.iload_n 1, 1) := dt_Ref_goes_c0 9
theorem d_Ref_goes_18 : decode (jm_cod M_Ref_goes) 18 = .ok (.baload, 1) := dt_Ref_goes_c0 10
theorem d_Ref_goes_19 : decode (jm_cod M_Ref_goes) 19 = .ok (.ifCond .eq 7, 3) := dt_Ref_goes_c0 11
theorem d_Ref_goes_22 : decode (jm_cod M_Ref_goes) 22 = .ok (.iconst 1, 1) := dt_Ref_goes_c0 12
theorem d_Ref_goes_23 : decode (jm_cod M_Ref_goes) 23 = .ok (.goto 30, 3) := dt_Ref_goes_c0 13
theorem d_Ref_goes_26 : decode (jm_cod M_Ref_goes) 26 = .ok (.iconst 0, 1) := dt_Ref_goes_c0 14
theorem d_Ref_goes_27 : decode (jm_cod M_Ref_goes) 27 = .ok (.goto 26, 3) := dt_Ref_goes_c0 15
theorem d_Ref_goes_30 : decode (jm_cod M_Ref_goes) 30 = .ok (.aload_n 0, 1) := dt_Ref_goes_c0 16
theorem d_Ref_goes_31 : decode (jm_cod M_Ref_goes) 31 = .ok (.getfield 88, 3) := dt_Ref_goes_c0 17
theorem d_Ref_goes_34 : decode (jm_cod M_Ref_goes) 34 = .ok (.iload_n 1, 1) := dt_Ref_goes_c0 18
theorem d_Ref_goes_35 : decode (jm_cod M_Ref_goes) 35 = .ok (.baload, 1) := dt_Ref_goes_c0 19
theorem d_Ref_goes_36 : decode (jm_cod M_Ref_goes) 36 = .ok (.ifCond .eq 16, 3) := dt_Ref_goes_c0 20
theorem d_Ref_goes_39 : decode (jm_cod M_Ref_goes) 39 = .ok (.aload_n 0, 1) := dt_Ref_goes_c0 21
theorem d_Ref_goes_40 : decode (jm_cod M_Ref_goes) 40 = .ok (.getfield 91, 3) := dt_Ref_goes_c0 22
theorem d_Ref_goes_43 : decode (jm_cod M_Ref_goes) 43 = .ok (.iload_n 1, 1) := dt_Ref_goes_c0 23
def tab_Ref_goes_c1 : List (Nat × Instr × Nat) := [(44, .baload, 1), (45, .ifCond .eq 7, 3), (48, .iconst 1, 1), (49, .goto 4, 3), (52, .iconst 0, 1), (53, .ireturn, 1)]
theorem dt_Ref_goes_c1 (i : Nat) : decode (jm_cod M_Ref_goes) (tab_Ref_goes_c1.getD i (44, .baload, 1)).1 = .ok ((tab_Ref_goes_c1.getD i (44, .baload, 1)).2.1, (tab_Ref_goes_c1.getD i (44, .baload, 1)).2.2) := j_tab (by decide +kernel) i
theorem d_Ref_goes_44 : decode (jm_cod M_Ref_goes) 44 = .ok (.baload, 1) := dt_Ref_goes_c1 0
theorem d_Ref_goes_45 : decode (jm_cod M_Ref_goes) 45 = .ok (.ifCond .eq 7, 3) := dt_Ref_goes_c1 1
theorem d_Ref_goes_48 : decode (jm_cod M_Ref_goes) 48 = .ok (.iconst 1, 1) := dt_Ref_goes_c1 2
theorem d_Ref_goes_49 : decode (jm_cod M_Ref_goes) 49 = .ok (.goto 4, 3) := dt_Ref_goes_c1 3
theorem d_Ref_goes_52 : decode (jm_cod M_Ref_goes) 52 = .ok (.iconst 0, 1) := dt_Ref_goes_c1 4
theorem d_Ref_goes_53 : decode (jm_cod M_Ref_goes) 53 = .ok (.ireturn, 1) := dt_Ref_goes_c1 5
def tab_Ref_goB_c0 : List (Nat × Instr × Nat) := [(0, .aload_n 0, 1), (1, .iload_n 1, 1), (2, .iload_n 2, 1), (3, .invokevirtual 422, 3), (6, .istore_n 3, 1), (7, .iload_n 3, 1), (8, .iconst (-1), 1), (9, .if_icmp .eq 9, 3), (12, .aload_n 0, 1), (13, .iload_n 1, 1), (14, .iload_n 3, 1), (15, .invokevirtual 428, 3), (18, .return_, 1)]
theorem dt_Ref_goB_c0 (i : Nat) : decode (jm_cod M_Ref_goB) (tab_Ref_goB_c0.getD i (0, .aload_n 0, 1)).1 = .ok ((tab_Ref_goB_c0.getD i (0, .aload_n 0, 1)).2.1, (tab_Ref_goB_c0.getD i (0, .aload_n 0, 1)).2.2) := j_tab (by decide +kernel) i
theorem d_Ref_goB_0 : decode (jm_cod M_Ref_goB) 0 = .ok (.aload_n 0, 1) := dt_Ref_goB_c0 0
theorem d_Ref_goB_1 : decode (jm_cod M_Ref_goB) 1 = .ok (.iload_n 1, 1) := dt_Ref_goB_c0 1
theorem d_Ref_goB_2 : decode (jm_cod M_Ref_goB) 2 = .ok (.iload_n 2, 1) := dt_Ref_goB_c0 2
theorem d_Ref_goB_3 : decode (jm_cod M_Ref_goB) 3 = .ok (.invokevirtual 422, 3) := dt_Ref_goB_c0 3
theorem d_Ref_goB_6 : decode (jm_cod M_Ref_goB) 6 = .ok (.istore_n 3, 1) := dt_Ref_goB_c0 4
theorem d_Ref_goB_7 : decode (jm_cod M_Ref_goB) 7 = .ok (.iload_n 3, 1) := dt_Ref_goB_c0 5
theorem d_Ref_goB_8 : decode (jm_cod M_Ref_goB) 8 = .ok (.iconst (-1), 1) := dt_Ref_goB_c0 6
theorem d_Ref_goB_9 : decode (jm_cod M_Ref_goB) 9 = .ok (.if_icmp .eq 9, 3) := dt_Ref_goB_c0 7
theorem d_Ref_goB_12 : decode (jm_cod M_Ref_goB) 12 = .ok (.aload_n 0, 1) := dt_Ref_goB_c0 8
theorem d_Ref_goB_13 : decode (jm_cod M_Ref_goB) 13 = .ok (.iload_n 1, 1) := dt_Ref_goB_c0 9
theorem d_Ref_goB_14 : decode (jm_cod M_Ref_goB) 14 = .ok (.iload_n 3, 1) := dt_Ref_goB_c0 10
theorem d_Ref_goB_15 : decode (jm_cod M_Ref_goB) 15 = .ok (.invokevirtual 428, 3) := dt_Ref_goB_c0 11
theorem d_Ref_goB_18 : decode (jm_cod M_Ref_goB) 18 = .ok (.return_, 1) := dt_Ref_goB_c0 12
def tab_Ref_dropWrite_c0 : List (Nat × Instr × Nat) := [(0, .aload_n 0, 1), (1, .getfield 247, 3), (4, .iload_n 1, 1), (5, .dup2, 1), (6, .iaload, 1), (7, .iconst 1, 1), (8, .isub, 1), (9, .iastore, 1), (10, .iload_n 2, 1), (11, .istore_n 3, 1), (12, .iload_n 3, 1), (13, .bipush 16, 2), (15, .iload_n 1, 1), (16, .imul, 1), (17, .aload_n 0, 1), (18, .getfield 247, 3), (21, .iload_n 1, 1), (22, .iaload, 1), (23, .iadd, 1), (24, .if_icmp .ge 108, 3), (27, .aload_n 0, 1), (28, .getfield 253, 3), (31, .iload_n 3, 1), (32, .aload_n 0, 1)]
theorem dt_Ref_dropWrite_c0 (i : Nat) : decode (jm_cod M_Ref_dropWrite) (tab_Ref_dropWrite_c0.getD i (0, .aload_n 0, 1)).1 = .ok ((tab_Ref_dropWrite_c0.getD i (0, .aload_n 0, 1)).2.1, (tab_Ref_dropWrite_c0.getD i (0, .aload_n 0, 1)).2.2) := j_tab (by decide +kernel) i
theorem d_Ref_dropWrite_0 : decode (jm_cod M_Ref_dropWrite) 0 = .ok (.aload_n 0, 1) := dt_Ref_dropWrite_c0 0
theorem d_Ref_dropWrite_1 : decode (jm_cod M_Ref_dropWrite) 1 = .ok (.getfield 247, 3) := dt_Ref_dropWrite_c0 1
theorem d_Ref_dropWrite_4 : decode (jm_cod M_Ref_dropWrite) 4 = .ok (.iload_n 1, 1) := dt_Ref_dropWrite_c0 2
theorem d_Ref_dropWrite_5 : decode (jm_cod M_Ref_dropWrite) 5 = .ok (.dup2, 1) := dt_Ref_dropWrite_c0 3
theorem d_Ref_dropWrite_6 : decode (jm_cod M_Ref_dropWrite) 6 = .ok (.iaload, 1) := dt_Ref_dropWrite_c0 4
theorem d_Ref_dropWrite_7 : decode (jm_cod M_Ref_dropWrite) 7 = .ok (.iconst 1, 1) := dt_Ref_dropWrite_c0 5
theorem d_Ref_dropWrite_8 : decode (jm_cod M_Ref_dropWrite) 8 = .ok (.isub, 1) := dt_Ref_dropWrite_c0 6
theorem d_Ref_dropWrite_9 : decode (jm_cod M_Ref_dropWrite) 9 = .ok (.iastore, 1) := dt_Ref_dropWrite_c0 7
theorem d_Ref_dropWrite_10 : decode (jm_cod M_Ref_dropWrite) 10 = .ok (.iload_n 2, 1) := dt_Ref_dropWrite_c0 8
theorem d_Ref_dropWrite_11 : decode (jm_cod M_Ref_dropWrite) 11 = .ok (.istore_n 3, 1) := dt_Ref_dropWrite_c0 9
theorem d_Ref_dropWrite_12 : decode (jm_cod M_Ref_dropWrite) 12 = .ok (.iload_n 3, 1) := dt_Ref_dropWrite_c0 10
theorem d_Ref_dropWrite_13 : decode (jm_cod M_Ref_dropWrite) 13 = .ok (.bipush 16, 2) := dt_Ref_dropWrite_c0 11
theorem d_Ref_dropWrite_15 : decode (jm_cod M_Ref_dropWrite) 15 = .ok (.iload_n 1, 1) := dt_Ref_dropWrite_c0 12
theorem d_Ref_dropWrite_16 : decode (jm_cod M_Ref_dropWrite) 16 = .ok (.imul, 1) := dt_Ref_dropWrite_c0 13
theorem d_Ref_dropWrite_17 : decode (jm_cod M_Ref_dropWrite) 17 = .ok (.aload_n 0, 1) := dt_Ref_dropWrite_c0 14
theorem d_Ref_dropWrite_18 : decode (jm_cod M_Ref_dropWrite) 18 = .ok (.getfield 247, 3) := dt_Ref_dropWrite_c0 15
theorem d_Ref_dropWrite_21 : decode (jm_cod M_Ref_dropWrite) 21 = .ok (.iload_n 1, 1) := dt_Ref_dropWrite_c0 16
theorem d_Ref_dropWrite_22 : decode (jm_cod M_Ref_dropWrite) 22 = .ok (.iaload, 1) := dt_Ref_dropWrite_c0 17
theorem d_Ref_dropWrite_23 : decode (jm_cod M_Ref_dropWrite) 23 = .ok (.iadd, 1) := dt_Ref_dropWrite_c0 18
theorem d_Ref_dropWrite_24 : decode (jm_cod M_Ref_dropWrite) 24 = .ok (.if_icmp .ge 108, 3) := dt_Ref_dropWrite_c0 19
theorem d_Ref_dropWrite_27 : decode (jm_cod M_Ref_dropWrite) 27 = .ok (.aload_n 0, 1) := dt_Ref_dropWrite_c0 20
theorem d_Ref_dropWrite_28 : decode (jm_cod M_Ref_dropWrite) 28 = .ok (.getfield 253, 3) := dt_Ref_dropWrite_c0 21
theorem d_Ref_dropWrite_31 : decode (jm_cod M_Ref_dropWrite) 31 = .ok (.iload_n 3, 1) := dt_Ref_dropWrite_c0 22
theorem d_Ref_dropWrite_32 : decode (jm_cod M_Ref_dropWrite) 32 = .ok (.aload_n 0, 1) := dt_Ref_dropWrite_c0 23
def tab_Ref_dropWrite_c1 : List (Nat × Instr × Nat) := [(33, .getfield 253, 3), (36, .iload_n 3, 1), (37, .iconst 1, 1), (38, .iadd, 1), (39, .baload, 1), (40, .bastore, 1), (41, .aload_n 0, 1), (42, .getfield 256, 3), (45, .iload_n 3, 1), (46, .aload_n 0, 1), (47, .getfield 256, 3), (50, .iload_n 3, 1), (51, .iconst 1, 1), (52, .iadd, 1), (53, .laload, 1), (54, .lastore, 1), (55, .aload_n 0, 1), (56, .getfield 259, 3), (59, .iload_n 3, 1), (60, .aload_n 0, 1), (61, .getfield 259, 3), (64, .iload_n 3, 1), (65, .iconst 1, 1), (66, .iadd, 1)]
theorem dt_Ref_dropWrite_c1 (i : Nat) : decode (jm_cod M_Ref_dropWrite) (tab_Ref_dropWrite_c1.getD i (33, .getfield 253, 3)).1 = .ok ((tab_Ref_dropWrite_c1.getD i (33, .getfield 253, 3)).2.1, (tab_Ref_dropWrite_c1.getD i (33, .getfield 253, 3)).2.2) := j_tab (by decide +kernel) i
theorem d_Ref_dropWrite_33 : decode (jm_cod M_Ref_dropWrite) 33 = .ok (.getfield 253, 3) := dt_Ref_dropWrite_c1 0
theorem d_Ref_dropWrite_36 : decode (jm_cod M_Ref_dropWrite) 36 = .ok (.iload_n 3, 1) := dt_Ref_dropWrite_c1 1
theorem d_Ref_dropWrite_37 : decode (jm_cod M_Ref_dropWrite) 37 = .ok (.iconst 1, 1) := dt_Ref_dropWrite_c1 2
theorem d_Ref_dropWrite_38 : decode (jm_cod M_Ref_dropWrite) 38 = .ok (.iadd, 1) := dt_Ref_dropWrite_c1 3
theorem d_Ref_dropWrite_39 : decode (jm_cod M_Ref_dropWrite) 39 = .ok (.baload, 1) := dt_Ref_dropWrite_c1 4
theorem d_Ref_dropWrite_40 : decode (jm_cod M_Ref_dropWrite) 40 = .ok (.bastore, 1) := dt_Ref_dropWrite_c1 5
theorem d_Ref_dropWrite_41 : decode (jm_cod M_Ref_dropWrite) 41 = .ok (.aload_n 0, 1) := dt_Ref_dropWrite_c1 6
theorem d_Ref_dropWrite_42 : decode (jm_cod M_Ref_dropWrite) 42 = .ok (.getfield 256, 3) := dt_Ref_dropWrite_c1 7
theorem d_Ref_dropWrite_45 : decode (jm_cod M_Ref_dropWrite) 45 = .ok (.iload_n 3, 1) := dt_Ref_dropWrite_c1 8
theorem d_Ref_dropWrite_46 : decode (jm_cod M_Ref_dropWrite) 46 = .ok (.aload_n 0, 1) := dt_Ref_dropWrite_c1 9
theorem d_Ref_dropWrite_47 : decode (jm_cod M_Ref_dropWrite) 47 = .ok (.getfield 256, 3) := dt_Ref_dropWrite_c1 10
theorem d_Ref_dropWrite_50 : decode (jm_cod M_Ref_dropWrite) 50 = .ok (.iload_n 3, 1) := dt_Ref_dropWrite_c1 11
theorem d_Ref_dropWrite_51 : decode (jm_cod M_Ref_dropWrite) 51 = .ok (.iconst 1, 1) := dt_Ref_dropWrite_c1 12
theorem d_Ref_dropWrite_52 : decode (jm_cod M_Ref_dropWrite) 52 = .ok (.iadd, 1) := dt_Ref_dropWrite_c1 13
theorem d_Ref_dropWrite_53 : decode (jm_cod M_Ref_dropWrite) 53 = .ok (.laload, 1) := dt_Ref_dropWrite_c1 14
theorem d_Ref_dropWrite_54 : decode (jm_cod M_Ref_dropWrite) 54 = .ok (.lastore, 1) := dt_Ref_dropWrite_c1 15
theorem d_Ref_dropWrite_55 : decode (jm_cod M_Ref_dropWrite) 55 = .ok (.aload_n 0, 1) := dt_Ref_dropWrite_c1 16
theorem d_Ref_dropWrite_56 : decode (jm_cod M_Ref_dropWrite) 56 = .ok (.getfield 259, 3) := dt_Ref_dropWrite_c1 17
theorem d_Ref_dropWrite_59 : decode (jm_cod M_Ref_dropWrite) 59 = .ok (.iload_n 3, 1) := dt_Ref_dropWrite_c1 18
theorem d_Ref_dropWrite_60 : decode (jm_cod M_Ref_dropWrite) 60 = .ok (.aload_n 0, 1) := dt_Ref_dropWrite_c1 19
theorem d_Ref_dropWrite_61 : decode (jm_cod M_Ref_dropWrite) 61 = .ok (.getfield 259, 3) := dt_Ref_dropWrite_c1 20
theorem d_Ref_dropWrite_64 : decode (jm_cod M_Ref_dropWrite) 64 = .ok (.iload_n 3, 1) := dt_Ref_dropWrite_c1 21
theorem d_Ref_dropWrite_65 : decode (jm_cod M_Ref_dropWrite) 65 = .ok (.iconst 1, 1) := dt_Ref_dropWrite_c1 22
theorem d_Ref_dropWrite_66 : decode (jm_cod M_Ref_dropWrite) 66 = .ok (.iadd, 1) := dt_Ref_dropWrite_c1 23
def tab_Ref_dropWrite_c2 : List (Nat × Instr × Nat) := [(67, .iaload, 1), (68, .iastore, 1), (69, .aload_n 0, 1), (70, .getfield 262, 3), (73, .iload_n 3, 1), (74, .aload_n 0, 1), (75, .getfield 262, 3), (78, .iload_n 3, 1), (79, .iconst 1, 1), (80, .iadd, 1), (81, .baload, 1), (82, .bastore, 1), (83, .iconst 0, 1), (84, .istore 4, 2), (86, .iload 4, 2), (88, .bipush 16, 2), (90, .if_icmp .ge 36, 3), (93, .aload_n 0, 1), (94, .getfield 265, 3), (97, .bipush 16, 2), (99, .iload_n 3, 1), (100, .imul, 1), (101, .iload 4, 2), (103, .iadd, 1)]
theorem dt_Ref_dropWrite_c2 (i : Nat) : decode (jm_cod M_Ref_dropWrite) (tab_Ref_dropWrite_c2.getD i (67, .iaload, 1)).1 = .ok ((tab_Ref_dropWrite_c2.getD i (67, .iaload, 1)).2.1, (tab_Ref_dropWrite_c2.getD i (67, .iaload, 1)).2.2) := j_tab (by decide +kernel) i
theorem d_Ref_dropWrite_67 : decode (jm_cod M_Ref_dropWrite) 67 = .ok (.iaload, 1) := dt_Ref_dropWrite_c2 0
theorem d_Ref_dropWrite_68 : decode (jm_cod M_Ref_dropWrite) 68 = .ok (.iastore, 1) := dt_Ref_dropWrite_c2 1
theorem d_Ref_dropWrite_69 : decode (jm_cod M_Ref_dropWrite) 69 = .ok (.aload_n 0, 1) := dt_Ref_dropWrite_c2 2
theorem d_Ref_dropWrite_70 : decode (jm_cod M_Ref_dropWrite) 70 = .ok (.getfield 262, 3) := dt_Ref_dropWrite_c2 3
theorem d_Ref_dropWrite_73 : decode (jm_cod M_Ref_dropWrite) 73 = .ok (.iload_n 3, 1) := dt_Ref_dropWrite_c2 4
theorem d_Ref_dropWrite_74 : decode (jm_cod M_Ref_dropWrite) 74 = .ok (.aload_n 0, 1) := dt_Ref_dropWrite_c2 5
theorem d_Ref_dropWrite_75 : decode (jm_cod M_Ref_dropWrite) 75 = .ok (.getfield 262, 3) := dt_Ref_dropWrite_c2 6
theorem d_Ref_dropWrite_78 : decode (jm_cod M_Ref_dropWrite) 78 = .ok (.iload_n 3, 1) := dt_Ref_dropWrite_c2 7
theorem d_Ref_dropWrite_79 : decode (jm_cod M_Ref_dropWrite) 79 = .ok (.iconst 1, 1) := dt_Ref_dropWrite_c2 8
theorem d_Ref_dropWrite_80 : decode (jm_cod M_Ref_dropWrite) 80 = .ok (.iadd, 1) := dt_Ref_dropWrite_c2 9
theorem d_Ref_dropWrite_81 : decode (jm_cod M_Ref_dropWrite) 81 = .ok (.baload, 1) := dt_Ref_dropWrite_c2 10
theorem d_Ref_dropWrite_82 : decode (jm_cod M_Ref_dropWrite) 82 = .ok (.bastore, 1) := dt_Ref_dropWrite_c2 11
theorem d_Ref_dropWrite_83 : decode (jm_cod M_Ref_dropWrite) 83 = .ok (.iconst 0, 1) := dt_Ref_dropWrite_c2 12
theorem d_Ref_dropWrite_84 : decode (jm_cod M_Ref_dropWrite) 84 = .ok (.istore 4, 2) := dt_Ref_dropWrite_c2 13
theorem d_Ref_dropWrite_86 : decode (jm_cod M_Ref_dropWrite) 86 = .ok (.iload 4, 2) := dt_Ref_dropWrite_c2 14
theorem d_Ref_dropWrite_88 : decode (jm_cod M_Ref_dropWrite) 88 = .ok (.bipush 16, 2) := dt_Ref_dropWrite_c2 15
theorem d_Ref_dropWrite_90 : decode (jm_cod M_Ref_dropWrite) 90 = .ok (.if_icmp .ge 36, 3) := dt_Ref_dropWrite_c2 16
theorem d_Ref_dropWrite_93 : decode (jm_cod M_Ref_dropWrite) 93 = .ok (.aload_n 0, 1) := dt_Ref_dropWrite_c2 17
theorem d_Ref_dropWrite_94 : decode (jm_cod M_Ref_dropWrite) 94 = .ok (.getfield 265, 3) := dt_Ref_dropWrite_c2 18
theorem d_Ref_dropWrite_97 : decode (jm_cod M_Ref_dropWrite) 97 = .ok (.bipush 16, 2) := dt_Ref_dropWrite_c2 19
theorem d_Ref_dropWrite_99 : decode (jm_cod M_Ref_dropWrite) 99 = .ok (.iload_n 3, 1) := dt_Ref_dropWrite_c2 20
theorem d_Ref_dropWrite_100 : decode (jm_cod M_Ref_dropWrite) 100 = .ok (.imul, 1) := dt_Ref_dropWrite_c2 21
theorem d_Ref_dropWrite_101 : decode (jm_cod M_Ref_dropWrite) 101 = .ok (.iload 4, 2) := dt_Ref_dropWrite_c2 22
theorem d_Ref_dropWrite_103 : decode (jm_cod M_Ref_dropWrite) 103 = .ok (.iadd, 1) := dt_Ref_dropWrite_c2 23
def tab_Ref_dropWrite_c3 : List (Nat × Instr × Nat) := [(104, .aload_n 0, 1), (105, .getfield 265, 3), (108, .bipush 16, 2), (110, .iload_n 3, 1), (111, .imul, 1), (112, .bipush 16, 2), (114, .iadd, 1), (115, .iload 4, 2), (117, .iadd, 1), (118, .iaload, 1), (119, .iastore, 1), (120, .iinc 4 1, 3), (123, .goto (-37), 3), (126, .iinc 3 1, 3), (129, .goto (-117), 3), (132, .return_, 1)]
theorem dt_Ref_dropWrite_c3 (i : Nat) : decode (jm_cod M_Ref_dropWrite) (tab_Ref_dropWrite_c3.getD i (104, .aload_n 0, 1)).1 = .ok ((tab_Ref_dropWrite_c3.getD i (104, .aload_n 0, 1)).2.1, (tab_Ref_dropWrite_c3.getD i (104, .aload_n 0, 1)).2.2) := j_tab (by decide +kernel) i
theorem d_Ref_dropWrite_104 : decode (jm_cod M_Ref_dropWrite) 104 = .ok (.aload_n 0, 1) := dt_Ref_dropWrite_c3 0
theorem d_Ref_dropWrite_105 : decode (jm_cod M_Ref_dropWrite) 105 = .ok (.getfield 265, 3) := dt_Ref_dropWrite_c3 1
theorem d_Ref_dropWrite_108 : decode (jm_cod M_Ref_dropWrite) 108 = .ok (.bipush 16, 2) := dt_Ref_dropWrite_c3 2
theorem d_Ref_dropWrite_110 : decode (jm_cod M_Ref_dropWrite) 110 = .ok (.iload_n 3, 1) := dt_Ref_dropWrite_c3 3
theorem d_Ref_dropWrite_111 : decode (jm_cod M_Ref_dropWrite) 111 = .ok (.imul, 1) := dt_Ref_dropWrite_c3 4
theorem d_Ref_dropWrite_112 : decode (jm_cod M_Ref_dropWrite) 112 = .ok (.bipush 16, 2) := dt_Ref_dropWrite_c3 5
theorem d_Ref_dropWrite_114 : decode (jm_cod M_Ref_dropWrite) 114 = .ok (.iadd, 1) := dt_Ref_dropWrite_c3 6
theorem d_Ref_dropWrite_115 : decode (jm_cod M_Ref_dropWrite) 115 = .ok (.iload 4, 2) := dt_Ref_dropWrite_c3 7
theorem d_Ref_dropWrite_117 : decode (jm_cod M_Ref_dropWrite) 117 = .ok (.iadd, 1) := dt_Ref_dropWrite_c3 8
theorem d_Ref_dropWrite_118 : decode (jm_cod M_Ref_dropWrite) 118 = .ok (.iaload, 1) := dt_Ref_dropWrite_c3 9
theorem d_Ref_dropWrite_119 : decode (jm_cod M_Ref_dropWrite) 119 = .ok (.iastore, 1) := dt_Ref_dropWrite_c3 10
theorem d_Ref_dropWrite_120 : decode (jm_cod M_Ref_dropWrite) 120 = .ok (.iinc 4 1, 3) := dt_Ref_dropWrite_c3 11
theorem d_Ref_dropWrite_123 : decode (jm_cod M_Ref_dropWrite) 123 = .ok (.goto (-37), 3) := dt_Ref_dropWrite_c3 12
theorem d_Ref_dropWrite_126 : decode (jm_cod M_Ref_dropWrite) 126 = .ok (.iinc 3 1, 3) := dt_Ref_dropWrite_c3 13
theorem d_Ref_dropWrite_129 : decode (jm_cod M_Ref_dropWrite) 129 = .ok (.goto (-117), 3) := dt_Ref_dropWrite_c3 14
theorem d_Ref_dropWrite_132 : decode (jm_cod M_Ref_dropWrite) 132 = .ok (.return_, 1) := dt_Ref_dropWrite_c3 15
def tab_Ref_goR_c0 : List (Nat × Instr × Nat) := [(0, .aload_n 0, 1), (1, .iload_n 1, 1), (2, .iload_n 2, 1), (3, .invokevirtual 425, 3), (6, .istore_n 3, 1), (7, .iload_n 3, 1), (8, .iconst (-1), 1), (9, .if_icmp .eq 37, 3), (12, .aload_n 0, 1), (13, .getfield 271, 3), (16, .iload_n 3, 1), (17, .dup2, 1), (18, .iaload, 1), (19, .iconst 1, 1), (20, .iadd, 1), (21, .iastore, 1), (22, .aload_n 0, 1), (23, .getfield 271, 3), (26, .iload_n 3, 1), (27, .iaload, 1), (28, .aload_n 0, 1), (29, .getfield 268, 3), (32, .iload_n 3, 1), (33, .laload, 1)]
theorem dt_Ref_goR_c0 (i : Nat) : decode (jm_cod M_Ref_goR) (tab_Ref_goR_c0.getD i (0, .aload_n 0, 1)).1 = .ok ((tab_Ref_goR_c0.getD i (0, .aload_n 0, 1)).2.1, (tab_Ref_goR_c0.getD i (0, .aload_n 0, 1)).2.2) := j_tab (by decide +kernel) i
theorem d_Ref_goR_0 : decode (jm_cod M_Ref_goR) 0 = .ok (.aload_n 0, 1) := dt_Ref_goR_c0 0
theorem d_Ref_goR_1 : decode (jm_cod M_Ref_goR) 1 = .ok (.iload_n 1, 1) := dt_Ref_goR_c0 1
theorem d_Ref_goR_2 : decode (jm_cod M_Ref_goR) 2 = .ok (.iload_n 2, 1) := dt_Ref_goR_c0 2
theorem d_Ref_goR_3 : decode (jm_cod M_Ref_goR) 3 = .ok (.invokevirtual 425, 3) := dt_Ref_goR_c0 3
theorem d_Ref_goR_6 : decode (jm_cod M_Ref_goR) 6 = .ok (.istore_n 3, 1) := dt_Ref_goR_c0 4
theorem d_Ref_goR_7 : decode (jm_cod M_Ref_goR) 7 = .ok (.iload_n 3, 1) := dt_Ref_goR_c0 5
theorem d_Ref_goR_8 : decode (jm_cod M_Ref_goR) 8 = .ok (.iconst (-1), 1) := dt_Ref_goR_c0 6
theorem d_Ref_goR_9 : decode (jm_cod M_Ref_goR) 9 = .ok (.if_icmp .eq 37, 3) := dt_Ref_goR_c0 7
theorem d_Ref_goR_12 : decode (jm_cod M_Ref_goR) 12 = .ok (.aload_n 0, 1) := dt_Ref_goR_c0 8
theorem d_Ref_goR_13 : decode (jm_cod M_Ref_goR) 13 = .ok (.getfield 271, 3) := dt_Ref_goR_c0 9
theorem d_Ref_goR_16 : decode (jm_cod M_Ref_goR) 16 = .ok (.iload_n 3, 1) := dt_Ref_goR_c0 10
theorem d_Ref_goR_17 : decode (jm_cod M_Ref_goR) 17 = .ok (.dup2, 1) := dt_Ref_goR_c0 11
theorem d_Ref_goR_18 : decode (jm_cod M_Ref_goR) 18 = .ok (.iaload, 1) := dt_Ref_goR_c0 12
theorem d_Ref_goR_19 : decode (jm_cod M_Ref_goR) 19 = .ok (.iconst 1, 1) := dt_Ref_goR_c0 13
theorem d_Ref_goR_20 : decode (jm_cod M_Ref_goR) 20 = .ok (.iadd, 1) := dt_Ref_goR_c0 14
theorem d_Ref_goR_21 : decode (jm_cod M_Ref_goR) 21 = .ok (.iastore, 1) := dt_Ref_goR_c0 15
theorem d_Ref_goR_22 : decode (jm_cod M_Ref_goR) 22 = .ok (.aload_n 0, 1) := dt_Ref_goR_c0 16
theorem d_Ref_goR_23 : decode (jm_cod M_Ref_goR) 23 = .ok (.getfield 271, 3) := dt_Ref_goR_c0 17
theorem d_Ref_goR_26 : decode (jm_cod M_Ref_goR) 26 = .ok (.iload_n 3, 1) := dt_Ref_goR_c0 18
theorem d_Ref_goR_27 : decode (jm_cod M_Ref_goR) 27 = .ok (.iaload, 1) := dt_Ref_goR_c0 19
theorem d_Ref_goR_28 : decode (jm_cod M_Ref_goR) 28 = .ok (.aload_n 0, 1) := dt_Ref_goR_c0 20
theorem d_Ref_goR_29 : decode (jm_cod M_Ref_goR) 29 = .ok (.getfield 268, 3) := dt_Ref_goR_c0 21
theorem d_Ref_goR_32 : decode (jm_cod M_Ref_goR) 32 = .ok (.iload_n 3, 1) := dt_Ref_goR_c0 22
theorem d_Ref_goR_33 : decode (jm_cod M_Ref_goR) 33 = .ok (.laload, 1) := dt_Ref_goR_c0 23
def tab_Ref_goR_c1 : List (Nat × Instr × Nat) := [(34, .invokestatic 321, 3), (37, .if_icmp .ne 9, 3), (40, .aload_n 0, 1), (41, .iload_n 1, 1), (42, .iload_n 3, 1), (43, .invokevirtual 431, 3), (46, .return_, 1)]
theorem dt_Ref_goR_c1 (i : Nat) : decode (jm_cod M_Ref_goR) (tab_Ref_goR_c1.getD i (34, .invokestatic 321, 3)).1 = .ok ((tab_Ref_goR_c1.getD i (34, .invokestatic 321, 3)).2.1, (tab_Ref_goR_c1.getD i (34, .invokestatic 321, 3)).2.2) := j_tab (by decide +kernel) i
theorem d_Ref_goR_34 : decode (jm_cod M_Ref_goR) 34 = .ok (.invokestatic 321, 3) := dt_Ref_goR_c1 0
theorem d_Ref_goR_37 : decode (jm_cod M_Ref_goR) 37 = .ok (.if_icmp .ne 9, 3) := dt_Ref_goR_c1 1
theorem d_Ref_goR_40 : decode (jm_cod M_Ref_goR) 40 = .ok (.aload_n 0, 1) := dt_Ref_goR_c1 2
theorem d_Ref_goR_41 : decode (jm_cod M_Ref_goR) 41 = .ok (.iload_n 1, 1) := dt_Ref_goR_c1 3
theorem d_Ref_goR_42 : decode (jm_cod M_Ref_goR) 42 = .ok (.iload_n 3, 1) := dt_Ref_goR_c1 4
theorem d_Ref_goR_43 : decode (jm_cod M_Ref_goR) 43 = .ok (.invokevirtual 431, 3) := dt_Ref_goR_c1 5
theorem d_Ref_goR_46 : decode (jm_cod M_Ref_goR) 46 = .ok (.return_, 1) := dt_Ref_goR_c1 6
def tab_Ref_dropRead_c0 : List (Nat × Instr × Nat) := [(0, .aload_n 0, 1), (1, .getfield 250, 3), (4, .iload_n 1, 1), (5, .dup2, 1), (6, .iaload, 1), (7, .iconst 1, 1), (8, .isub, 1), (9, .iastore, 1), (10, .iload_n 2, 1), (11, .istore_n 3, 1), (12, .iload_n 3, 1), (13, .bipush 16, 2), (15, .iload_n 1, 1), (16, .imul, 1), (17, .aload_n 0, 1), (18, .getfield 250, 3), (21, .iload_n 1, 1), (22, .iaload, 1), (23, .iadd, 1), (24, .if_icmp .ge 37, 3), (27, .aload_n 0, 1), (28, .getfield 268, 3), (31, .iload_n 3, 1), (32, .aload_n 0, 1)]
theorem dt_Ref_dropRead_c0 (i : Nat) : decode (jm_cod M_Ref_dropRead) (tab_Ref_dropRead_c0.getD i (0, .aload_n 0, 1)).1 = .ok ((tab_Ref_dropRead_c0.getD i (0, .aload_n 0, 1)).2.1, (tab_Ref_dropRead_c0.getD i (0, .aload_n 0, 1)).2.2) := j_tab (by decide +kernel) i
theorem d_Ref_dropRead_0 : decode (jm_cod M_Ref_dropRead) 0 = .ok (.aload_n 0, 1) := dt_Ref_dropRead_c0 0
theorem d_Ref_dropRead_1 : decode (jm_cod M_Ref_dropRead) 1 = .ok (.getfield 250, 3) := dt_Ref_dropRead_c0 1
theorem d_Ref_dropRead_4 : decode (jm_cod M_Ref_dropRead) 4 = .ok (.iload_n 1, 1) := dt_Ref_dropRead_c0 2
theorem d_Ref_dropRead_5 : decode (jm_cod M_Ref_dropRead) 5 = .ok (.dup2, 1) := dt_Ref_dropRead_c0 3
theorem d_Ref_dropRead_6 : decode (jm_cod M_Ref_dropRead) 6 = .ok (.iaload, 1) := dt_Ref_dropRead_c0 4
theorem d_Ref_dropRead_7 : decode (jm_cod M_Ref_dropRead) 7 = .ok (.iconst 1, 1) := dt_Ref_dropRead_c0 5
theorem d_Ref_dropRead_8 : decode (jm_cod M_Ref_dropRead) 8 = .ok (.isub, 1) := dt_Ref_dropRead_c0 6
theorem d_Ref_dropRead_9 : decode (jm_cod M_Ref_dropRead) 9 = .ok (.iastore, 1) := dt_Ref_dropRead_c0 7
theorem d_Ref_dropRead_10 : decode (jm_cod M_Ref_dropRead) 10 = .ok (.iload_n 2, 1) := dt_Ref_dropRead_c0 8
theorem d_Ref_dropRead_11 : decode (jm_cod M_Ref_dropRead) 11 = .ok (.istore_n 3, 1) := dt_Ref_dropRead_c0 9
theorem d_Ref_dropRead_12 : decode (jm_cod M_Ref_dropRead) 12 = .ok (.iload_n 3, 1) := dt_Ref_dropRead_c0 10
theorem d_Ref_dropRead_13 : decode (jm_cod M_Ref_dropRead) 13 = .ok (.bipush 16, 2) := dt_Ref_dropRead_c0 11
theorem d_Ref_dropRead_15 : decode (jm_cod M_Ref_dropRead) 15 = .ok (.iload_n 1, 1) := dt_Ref_dropRead_c0 12
theorem d_Ref_dropRead_16 : decode (jm_cod M_Ref_dropRead) 16 = .ok (.imul, 1) := dt_Ref_dropRead_c0 13
theorem d_Ref_dropRead_17 : decode (jm_cod M_Ref_dropRead) 17 = .ok (.aload_n 0, 1) := dt_Ref_dropRead_c0 14
theorem d_Ref_dropRead_18 : decode (jm_cod M_Ref_dropRead) 18 = .ok (.getfield 250, 3) := dt_Ref_dropRead_c0 15
theorem d_Ref_dropRead_21 : decode (jm_cod M_Ref_dropRead) 21 = .ok (.iload_n 1, 1) := dt_Ref_dropRead_c0 16
theorem d_Ref_dropRead_22 : decode (jm_cod M_Ref_dropRead) 22 = .ok (.iaload, 1) := dt_Ref_dropRead_c0 17
theorem d_Ref_dropRead_23 : decode (jm_cod M_Ref_dropRead) 23 = .ok (.iadd, 1) := dt_Ref_dropRead_c0 18
theorem d_Ref_dropRead_24 : decode (jm_cod M_Ref_dropRead) 24 = .ok (.if_icmp .ge 37, 3) := dt_Ref_dropRead_c0 19
theorem d_Ref_dropRead_27 : decode (jm_cod M_Ref_dropRead) 27 = .ok (.aload_n 0, 1) := dt_Ref_dropRead_c0 20
theorem d_Ref_dropRead_28 : decode (jm_cod M_Ref_dropRead) 28 = .ok (.getfield 268, 3) := dt_Ref_dropRead_c0 21
theorem d_Ref_dropRead_31 : decode (jm_cod M_Ref_dropRead) 31 = .ok (.iload_n 3, 1) := dt_Ref_dropRead_c0 22
theorem d_Ref_dropRead_32 : decode (jm_cod M_Ref_dropRead) 32 = .ok (.aload_n 0, 1) := dt_Ref_dropRead_c0 23
def tab_Ref_dropRead_c1 : List (Nat × Instr × Nat) := [(33, .getfield 268, 3), (36, .iload_n 3, 1), (37, .iconst 1, 1), (38, .iadd, 1), (39, .laload, 1), (40, .lastore, 1), (41, .aload_n 0, 1), (42, .getfield 271, 3), (45, .iload_n 3, 1), (46, .aload_n 0, 1), (47, .getfield 271, 3), (50, .iload_n 3, 1), (51, .iconst 1, 1), (52, .iadd, 1), (53, .iaload, 1), (54, .iastore, 1), (55, .iinc 3 1, 3), (58, .goto (-46), 3), (61, .return_, 1)]
theorem dt_Ref_dropRead_c1 (i : Nat) : decode (jm_cod M_Ref_dropRead) (tab_Ref_dropRead_c1.getD i (33, .getfield 268, 3)).1 = .ok ((tab_Ref_dropRead_c1.getD i (33, .getfield 268, 3)).2.1, (tab_Ref_dropRead_c1.getD i (33, .getfield 268, 3)).2.2) := j_tab (by decide +kernel) i
theorem d_Ref_dropRead_33 : decode (jm_cod M_Ref_dropRead) 33 = .ok (.getfield 268, 3) := dt_Ref_dropRead_c1 0
theorem d_Ref_dropRead_36 : decode (jm_cod M_Ref_dropRead) 36 = .ok (.iload_n 3, 1) := dt_Ref_dropRead_c1 1
theorem d_Ref_dropRead_37 : decode (jm_cod M_Ref_dropRead) 37 = .ok (.iconst 1, 1) := dt_Ref_dropRead_c1 2
theorem d_Ref_dropRead_38 : decode (jm_cod M_Ref_dropRead) 38 = .ok (.iadd, 1) := dt_Ref_dropRead_c1 3
theorem d_Ref_dropRead_39 : decode (jm_cod M_Ref_dropRead) 39 = .ok (.laload, 1) := dt_Ref_dropRead_c1 4
theorem d_Ref_dropRead_40 : decode (jm_cod M_Ref_dropRead) 40 = .ok (.lastore, 1) := dt_Ref_dropRead_c1 5
theorem d_Ref_dropRead_41 : decode (jm_cod M_Ref_dropRead) 41 = .ok (.aload_n 0, 1) := dt_Ref_dropRead_c1 6
theorem d_Ref_dropRead_42 : decode (jm_cod M_Ref_dropRead) 42 = .ok (.getfield 271, 3) := dt_Ref_dropRead_c1 7
theorem d_Ref_dropRead_45 : decode (jm_cod M_Ref_dropRead) 45 = .ok (.iload_n 3, 1) := dt_Ref_dropRead_c1 8
theorem d_Ref_dropRead_46 : decode (jm_cod M_Ref_dropRead) 46 = .ok (.aload_n 0, 1) := dt_Ref_dropRead_c1 9
theorem d_Ref_dropRead_47 : decode (jm_cod M_Ref_dropRead) 47 = .ok (.getfield 271, 3) := dt_Ref_dropRead_c1 10
theorem d_Ref_dropRead_50 : decode (jm_cod M_Ref_dropRead) 50 = .ok (.iload_n 3, 1) := dt_Ref_dropRead_c1 11
theorem d_Ref_dropRead_51 : decode (jm_cod M_Ref_dropRead) 51 = .ok (.iconst 1, 1) := dt_Ref_dropRead_c1 12
theorem d_Ref_dropRead_52 : decode (jm_cod M_Ref_dropRead) 52 = .ok (.iadd, 1) := dt_Ref_dropRead_c1 13
theorem d_Ref_dropRead_53 : decode (jm_cod M_Ref_dropRead) 53 = .ok (.iaload, 1) := dt_Ref_dropRead_c1 14
theorem d_Ref_dropRead_54 : decode (jm_cod M_Ref_dropRead) 54 = .ok (.iastore, 1) := dt_Ref_dropRead_c1 15
theorem d_Ref_dropRead_55 : decode (jm_cod M_Ref_dropRead) 55 = .ok (.iinc 3 1, 3) := dt_Ref_dropRead_c1 16
theorem d_Ref_dropRead_58 : decode (jm_cod M_Ref_dropRead) 58 = .ok (.goto (-46), 3) := dt_Ref_dropRead_c1 17
theorem d_Ref_dropRead_61 : decode (jm_cod M_Ref_dropRead) 61 = .ok (.return_, 1) := dt_Ref_dropRead_c1 18
def tab_Ref_goAr_c0 : List (Nat × Instr × Nat) := [(0, .aload_n 0, 1), (1, .getfield 250, 3), (4, .iload_n 1, 1), (5, .iaload, 1), (6, .bipush 16, 2), (8, .if_icmp .ne 12, 3), (11, .aload_n 0, 1), (12, .iload_n 1, 1), (13, .bipush 12, 2), (15, .iconst 3, 1), (16, .invokevirtual 415, 3), (19, .return_, 1), (20, .aload_n 0, 1), (21, .getfield 268, 3), (24, .bipush 16, 2), (26, .iload_n 1, 1), (27, .imul, 1), (28, .aload_n 0, 1), (29, .getfield 250, 3), (32, .iload_n 1, 1), (33, .iaload, 1), (34, .iadd, 1), (35, .lload_n 2, 1), (36, .lastore, 1)]
theorem dt_Ref_goAr_c0 (i : Nat) : decode (jm_cod M_Ref_goAr) (tab_Ref_goAr_c0.getD i (0, .aload_n 0, 1)).1 = .ok ((tab_Ref_goAr_c0.getD i (0, .aload_n 0, 1)).2.1, (tab_Ref_goAr_c0.getD i (0, .aload_n 0, 1)).2.2) := j_tab (by decide +kernel) i
theorem d_Ref_goAr_0 : decode (jm_cod M_Ref_goAr) 0 = .ok (.aload_n 0, 1) := dt_Ref_goAr_c0 0
theorem d_Ref_goAr_1 : decode (jm_cod M_Ref_goAr) 1 = .ok (.getfield 250, 3) := dt_Ref_goAr_c0 1
theorem d_Ref_goAr_4 : decode (jm_cod M_Ref_goAr) 4 = .ok (.iload_n 1, 1) := dt_Ref_goAr_c0 2
theorem d_Ref_goAr_5 : decode (jm_cod M_Ref_goAr) 5 = .ok (.iaload, 1) := dt_Ref_goAr_c0 3
theorem d_Ref_goAr_6 : decode (jm_cod M_Ref_goAr) 6 = .ok (.bipush 16, 2) := dt_Ref_goAr_c0 4
theorem d_Ref_goAr_8 : decode (jm_cod M_Ref_goAr) 8 = .ok (.if_icmp .ne 12, 3) := dt_Ref_goAr_c0 5
theorem d_Ref_goAr_11 : decode (jm_cod M_Ref_goAr) 11 = .ok (.aload_n 0, 1) := dt_Ref_goAr_c0 6
theorem d_Ref_goAr_12 : decode (jm_cod M_Ref_goAr) 12 = .ok (.iload_n 1, 1) := dt_Ref_goAr_c0 7
theorem d_Ref_goAr_13 : decode (jm_cod M_Ref_goAr) 13 = .ok (.bipush 12, 2) := dt_Ref_goAr_c0 8
theorem d_Ref_goAr_15 : decode (jm_cod M_Ref_goAr) 15 = .ok (.iconst 3, 1) := dt_Ref_goAr_c0 9
theorem d_Ref_goAr_16 : decode (jm_cod M_Ref_goAr) 16 = .ok (.invokevirtual 415, 3) := dt_Ref_goAr_c0 10
theorem d_Ref_goAr_19 : decode (jm_cod M_Ref_goAr) 19 = .ok (.return_, 1) := dt_Ref_goAr_c0 11
theorem d_Ref_goAr_20 : decode (jm_cod M_Ref_goAr) 20 = .ok (.aload_n 0, 1) := dt_Ref_goAr_c0 12
theorem d_Ref_goAr_21 : decode (jm_cod M_Ref_goAr) 21 = .ok (.getfield 268, 3) := dt_Ref_goAr_c0 13
theorem d_Ref_goAr_24 : decode (jm_cod M_Ref_goAr) 24 = .ok (.bipush 16, 2) := dt_Ref_goAr_c0 14
theorem d_Ref_goAr_26 : decode (jm_cod M_Ref_goAr) 26 = .ok (.iload_n 1, 1) := dt_Ref_goAr_c0 15
theorem d_Ref_goAr_27 : decode (jm_cod M_Ref_goAr) 27 = .ok (.imul, 1) := dt_Ref_goAr_c0 16
theorem d_Ref_goAr_28 : decode (jm_cod M_Ref_goAr) 28 = .ok (.aload_n 0, 1) := dt_Ref_goAr_c0 17
theorem d_Ref_goAr_29 : decode (jm_cod M_Ref_goAr) 29 = .ok (.getfield 250, 3) := dt_Ref_goAr_c0 18
theorem d_Ref_goAr_32 : decode (jm_cod M_Ref_goAr) 32 = .ok (.iload_n 1, 1) := dt_Ref_goAr_c0 19
theorem d_Ref_goAr_33 : decode (jm_cod M_Ref_goAr) 33 = .ok (.iaload, 1) := dt_Ref_goAr_c0 20
theorem d_Ref_goAr_34 : decode (jm_cod M_Ref_goAr) 34 = .ok (.iadd, 1) := dt_Ref_goAr_c0 21
theorem d_Ref_goAr_35 : decode (jm_cod M_Ref_goAr) 35 = .ok (.lload_n 2, 1) := dt_Ref_goAr_c0 22
theorem d_Ref_goAr_36 : decode (jm_cod M_Ref_goAr) 36 = .ok (.lastore, 1) := dt_Ref_goAr_c0 23
def tab_Ref_goAr_c1 : List (Nat × Instr × Nat) := [(37, .aload_n 0, 1), (38, .getfield 271, 3), (41, .bipush 16, 2), (43, .iload_n 1, 1), (44, .imul, 1), (45, .aload_n 0, 1), (46, .getfield 250, 3), (49, .iload_n 1, 1), (50, .iaload, 1), (51, .iadd, 1), (52, .iconst 0, 1), (53, .iastore, 1), (54, .aload_n 0, 1), (55, .getfield 250, 3), (58, .iload_n 1, 1), (59, .dup2, 1), (60, .iaload, 1), (61, .iconst 1, 1), (62, .iadd, 1), (63, .iastore, 1), (64, .return_, 1)]
theorem dt_Ref_goAr_c1 (i : Nat) : decode (jm_cod M_Ref_goAr) (tab_Ref_goAr_c1.getD i (37, .aload_n 0, 1)).1 = .ok ((tab_Ref_goAr_c1.getD i (37, .aload_n 0, 1)).2.1, (tab_Ref_goAr_c1.getD i (37, .aload_n 0, 1)).2.2) := j_tab (by decide +kernel) i
theorem d_Ref_goAr_37 : decode (jm_cod M_Ref_goAr) 37 = .ok (.aload_n 0, 1) := dt_Ref_goAr_c1 0
theorem d_Ref_goAr_38 : decode (jm_cod M_Ref_goAr) 38 = .ok (.getfield 271, 3) := dt_Ref_goAr_c1 1
theorem d_Ref_goAr_41 : decode (jm_cod M_Ref_goAr) 41 = .ok (.bipush 16, 2) := dt_Ref_goAr_c1 2
theorem d_Ref_goAr_43 : decode (jm_cod M_Ref_goAr) 43 = .ok (.iload_n 1, 1) := dt_Ref_goAr_c1 3
theorem d_Ref_goAr_44 : decode (jm_cod M_Ref_goAr) 44 = .ok (.imul, 1) := dt_Ref_goAr_c1 4
theorem d_Ref_goAr_45 : decode (jm_cod M_Ref_goAr) 45 = .ok (.aload_n 0, 1) := dt_Ref_goAr_c1 5
theorem d_Ref_goAr_46 : decode (jm_cod M_Ref_goAr) 46 = .ok (.getfield 250, 3) := dt_Ref_goAr_c1 6
theorem d_Ref_goAr_49 : decode (jm_cod M_Ref_goAr) 49 = .ok (.iload_n 1, 1) := dt_Ref_goAr_c1 7
theorem d_Ref_goAr_50 : decode (jm_cod M_Ref_goAr) 50 = .ok (.iaload, 1) := dt_Ref_goAr_c1 8
theorem d_Ref_goAr_51 : decode (jm_cod M_Ref_goAr) 51 = .ok (.iadd, 1) := dt_Ref_goAr_c1 9
theorem d_Ref_goAr_52 : decode (jm_cod M_Ref_goAr) 52 = .ok (.iconst 0, 1) := dt_Ref_goAr_c1 10
theorem d_Ref_goAr_53 : decode (jm_cod M_Ref_goAr) 53 = .ok (.iastore, 1) := dt_Ref_goAr_c1 11
theorem d_Ref_goAr_54 : decode (jm_cod M_Ref_goAr) 54 = .ok (.aload_n 0, 1) := dt_Ref_goAr_c1 12
theorem d_Ref_goAr_55 : decode (jm_cod M_Ref_goAr) 55 = .ok (.getfield 250, 3) := dt_Ref_goAr_c1 13
theorem d_Ref_goAr_58 : decode (jm_cod M_Ref_goAr) 58 = .ok (.iload_n 1, 1) := dt_Ref_goAr_c1 14
theorem d_Ref_goAr_59 : decode (jm_cod M_Ref_goAr) 59 = .ok (.dup2, 1) := dt_Ref_goAr_c1 15
theorem d_Ref_goAr_60 : decode (jm_cod M_Ref_goAr) 60 = .ok (.iaload, 1) := dt_Ref_goAr_c1 16
theorem d_Ref_goAr_61 : decode (jm_cod M_Ref_goAr) 61 = .ok (.iconst 1, 1) := dt_Ref_goAr_c1 17
theorem d_Ref_goAr_62 : decode (jm_cod M_Ref_goAr) 62 = .ok (.iadd, 1) := dt_Ref_goAr_c1 18
theorem d_Ref_goAr_63 : decode (jm_cod M_Ref_goAr) 63 = .ok (.iastore, 1) := dt_Ref_goAr_c1 19
theorem d_Ref_goAr_64 : decode (jm_cod M_Ref_goAr) 64 = .ok (.return_, 1) := dt_Ref_goAr_c1 20
def tab_Ref_goAw_c0 : List (Nat × Instr × Nat) := [(0, .iconst (-1), 1), (1, .istore 4, 2), (3, .iconst 0, 1), (4, .istore 5, 2), (6, .iload 5, 2), (8, .aload_n 0, 1), (9, .getfield 247, 3), (12, .iload_n 1, 1), (13, .iaload, 1), (14, .if_icmp .ge 43, 3), (17, .iload 4, 2), (19, .iconst (-1), 1), (20, .if_icmp .ne 37, 3), (23, .aload_n 0, 1), (24, .getfield 253, 3), (27, .bipush 16, 2), (29, .iload_n 1, 1), (30, .imul, 1), (31, .iload 5, 2), (33, .iadd, 1), (34, .baload, 1), (35, .ifCond .eq 7, 3), (38, .iconst (-1), 1), (39, .goto 10, 3)]
theorem dt_Ref_goAw_c0 (i : Nat) : decode (jm_cod M_Ref_goAw) (tab_Ref_goAw_c0.getD i (0, .iconst (-1), 1)).1 = .ok ((tab_Ref_goAw_c0.getD i (0, .iconst (-1), 1)).2.1, (tab_Ref_goAw_c0.getD i (0, .iconst (-1), 1)).2.2) := j_tab (by decide +kernel) i
theorem d_Ref_goAw_0 : decode (jm_cod M_Ref_goAw) 0 = .ok (.iconst (-1), 1) := dt_Ref_goAw_c0 0
theorem d_Ref_goAw_1 : decode (jm_cod M_Ref_goAw) 1 = .ok (.istore 4, 2) := dt_Ref_goAw_c0 1
theorem d_Ref_goAw_3 : decode (jm_cod M_Ref_goAw) 3 = .ok (.iconst 0, 1) := dt_Ref_goAw_c0 2
theorem d_Ref_goAw_4 : decode (jm_cod M_Ref_goAw) 4 = .ok (.istore 5, 2) := dt_Ref_goAw_c0 3
theorem d_Ref_goAw_6 : decode (jm_cod M_Ref_goAw) 6 = .ok (.iload 5, 2) := dt_Ref_goAw_c0 4
theorem d_Ref_goAw_8 : decode (jm_cod M_Ref_goAw) 8 = .ok (.aload_n 0, 1) := dt_Ref_goAw_c0 5
theorem d_Ref_goAw_9 : decode (jm_cod M_Ref_goAw) 9 = .ok (.getfield 247, 3) := dt_Ref_goAw_c0 6
theorem d_Ref_goAw_12 : decode (jm_cod M_Ref_goAw) 12 = .ok (.iload_n 1, 1) := dt_Ref_goAw_c0 7
theorem d_Ref_goAw_13 : decode (jm_cod M_Ref_goAw) 13 = .ok (.iaload, 1) := dt_Ref_goAw_c0 8
theorem d_Ref_goAw_14 : decode (jm_cod M_Ref_goAw) 14 = .ok (.if_icmp .ge 43, 3) := dt_Ref_goAw_c0 9
theorem d_Ref_goAw_17 : decode (jm_cod M_Ref_goAw) 17 = .ok (.iload 4, 2) := dt_Ref_goAw_c0 10
theorem d_Ref_goAw_19 : decode (jm_cod M_Ref_goAw) 19 = .ok (.iconst (-1), 1) := dt_Ref_goAw_c0 11
theorem d_Ref_goAw_20 : decode (jm_cod M_Ref_goAw) 20 = .ok (.if_icmp .ne 37, 3) := dt_Ref_goAw_c0 12
theorem d_Ref_goAw_23 : decode (jm_cod M_Ref_goAw) 23 = .ok (.aload_n 0, 1) := dt_Ref_goAw_c0 13
theorem d_Ref_goAw_24 : decode (jm_cod M_Ref_goAw) 24 = .ok (.getfield 253, 3) := dt_Ref_goAw_c0 14
theorem d_Ref_goAw_27 : decode (jm_cod M_Ref_goAw) 27 = .ok (.bipush 16, 2) := dt_Ref_goAw_c0 15
theorem d_Ref_goAw_29 : decode (jm_cod M_Ref_goAw) 29 = .ok (.iload_n 1, 1) := dt_Ref_goAw_c0 16
theorem d_Ref_goAw_30 : decode (jm_cod M_Ref_goAw) 30 = .ok (.imul, 1) := dt_Ref_goAw_c0 17
theorem d_Ref_goAw_31 : decode (jm_cod M_Ref_goAw) 31 = .ok (.iload 5, 2) := dt_Ref_goAw_c0 18
theorem d_Ref_goAw_33 : decode (jm_cod M_Ref_goAw) 33 = .ok (.iadd, 1) := dt_Ref_goAw_c0 19
theorem d_Ref_goAw_34 : decode (jm_cod M_Ref_goAw) 34 = .ok (.baload, 1) := dt_Ref_goAw_c0 20
theorem d_Ref_goAw_35 : decode (jm_cod M_Ref_goAw) 35 = .ok (.ifCond .eq 7, 3) := dt_Ref_goAw_c0 21
theorem d_Ref_goAw_38 : decode (jm_cod M_Ref_goAw) 38 = .ok (.iconst (-1), 1) := dt_Ref_goAw_c0 22
theorem d_Ref_goAw_39 : decode (jm_cod M_Ref_goAw) 39 = .ok (.goto 10, 3) := dt_Ref_goAw_c0 23
def tab_Ref_goAw_c1 : List (Nat × Instr × Nat) := [(42, .bipush 16, 2), (44, .iload_n 1, 1), (45, .imul, 1), (46, .iload 5, 2), (48, .iadd, 1), (49, .istore 4, 2), (51, .iinc 5 1, 3), (54, .goto (-48), 3), (57, .iload 4, 2), (59, .iconst (-1), 1), (60, .if_icmp .ne 12, 3), (63, .aload_n 0, 1), (64, .iload_n 1, 1), (65, .iconst 0, 1), (66, .invokevirtual 434, 3), (69, .goto 5, 3), (72, .iload 4, 2), (74, .istore 4, 2), (76, .iload 4, 2), (78, .iconst (-1), 1), (79, .if_icmp .ne 4, 3), (82, .return_, 1), (83, .aload_n 0, 1), (84, .getfield 253, 3)]
theorem dt_Ref_goAw_c1 (i : Nat) : decode (jm_cod M_Ref_goAw) (tab_Ref_goAw_c1.getD i (42, .bipush 16, 2)).1 = .ok ((tab_Ref_goAw_c1.getD i (42, .bipush 16, 2)).2.1, (tab_Ref_goAw_c1.getD i (42, .bipush 16, 2)).2.2) := j_tab (by decide +kernel) i
theorem d_Ref_goAw_42 : decode (jm_cod M_Ref_goAw) 42 = .ok (.bipush 16, 2) := dt_Ref_goAw_c1 0
theorem d_Ref_goAw_44 : decode (jm_cod M_Ref_goAw) 44 = .ok (.iload_n 1, 1) := dt_Ref_goAw_c1 1
theorem d_Ref_goAw_45 : decode (jm_cod M_Ref_goAw) 45 = .ok (.imul, 1) := dt_Ref_goAw_c1 2
theorem d_Ref_goAw_46 : decode (jm_cod M_Ref_goAw) 46 = .ok (.iload 5, 2) := dt_Ref_goAw_c1 3
theorem d_Ref_goAw_48 : decode (jm_cod M_Ref_goAw) 48 = .ok (.iadd, 1) := dt_Ref_goAw_c1 4
theorem d_Ref_goAw_49 : decode (jm_cod M_Ref_goAw) 49 = .ok (.istore 4, 2) := dt_Ref_goAw_c1 5
theorem d_Ref_goAw_51 : decode (jm_cod M_Ref_goAw) 51 = .ok (.iinc 5 1, 3) := dt_Ref_goAw_c1 6
theorem d_Ref_goAw_54 : decode (jm_cod M_Ref_goAw) 54 = .ok (.goto (-48), 3) := dt_Ref_goAw_c1 7
theorem d_Ref_goAw_57 : decode (jm_cod M_Ref_goAw) 57 = .ok (.iload 4, 2) := dt_Ref_goAw_c1 8
theorem d_Ref_goAw_59 : decode (jm_cod M_Ref_goAw) 59 = .ok (.iconst (-1), 1) := dt_Ref_goAw_c1 9
theorem d_Ref_goAw_60 : decode (jm_cod M_Ref_goAw) 60 = .ok (.if_icmp .ne 12, 3) := dt_Ref_goAw_c1 10
theorem d_Ref_goAw_63 : decode (jm_cod M_Ref_goAw) 63 = .ok (.aload_n 0, 1) := dt_Ref_goAw_c1 11
theorem d_Ref_goAw_64 : decode (jm_cod M_Ref_goAw) 64 = .ok (.iload_n 1, 1) := dt_Ref_goAw_c1 12
theorem d_Ref_goAw_65 : decode (jm_cod M_Ref_goAw) 65 = .ok (.iconst 0, 1) := dt_Ref_goAw_c1 13
theorem d_Ref_goAw_66 : decode (jm_cod M_Ref_goAw) 66 = .ok (.invokevirtual 434, 3) := dt_Ref_goAw_c1 14
theorem d_Ref_goAw_69 : decode (jm_cod M_Ref_goAw) 69 = .ok (.goto 5, 3) := dt_Ref_goAw_c1 15
theorem d_Ref_goAw_72 : decode (jm_cod M_Ref_goAw) 72 = .ok (.iload 4, 2) := dt_Ref_goAw_c1 16
theorem d_Ref_goAw_74 : decode (jm_cod M_Ref_goAw) 74 = .ok (.istore 4, 2) := dt_Ref_goAw_c1 17
theorem d_Ref_goAw_76 : decode (jm_cod M_Ref_goAw) 76 = .ok (.iload 4, 2) := dt_Ref_goAw_c1 18
theorem d_Ref_goAw_78 : decode (jm_cod M_Ref_goAw) 78 = .ok (.iconst (-1), 1) := dt_Ref_goAw_c1 19
theorem d_Ref_goAw_79 : decode (jm_cod M_Ref_goAw) 79 = .ok (.if_icmp .ne 4, 3) := dt_Ref_goAw_c1 20
theorem d_Ref_goAw_82 : decode (jm_cod M_Ref_goAw) 82 = .ok (.return_, 1) := dt_Ref_goAw_c1 21
theorem d_Ref_goAw_83 : decode (jm_cod M_Ref_goAw) 83 = .ok (.aload_n 0, 1) := dt_Ref_goAw_c1 22
theorem d_Ref_goAw_84 : decode (jm_cod M_Ref_goAw) 84 = .ok (.getfield 253, 3) := dt_Ref_goAw_c1 23
def tab_Ref_goAw_c2 : List (Nat × Instr × Nat) := [(87, .iload 4, 2), (89, .iconst 1, 1), (90, .bastore, 1), (91, .aload_n 0, 1), (92, .getfield 256, 3), (95, .iload 4, 2), (97, .lload_n 2, 1), (98, .lastore, 1), (99, .iconst 0, 1), (100, .istore 5, 2), (102, .iload 5, 2), (104, .aload_n 0, 1), (105, .getfield 259, 3), (108, .iload 4, 2), (110, .iaload, 1), (111, .if_icmp .ge 28, 3), (114, .aload_n 0, 1), (115, .getfield 238, 3), (118, .iload_n 1, 1), (119, .iaload, 1), (120, .ifCond .ne 19, 3), (123, .aload_n 0, 1), (124, .iload_n 1, 1), (125, .iload 4, 2)]
theorem dt_Ref_goAw_c2 (i : Nat) : decode (jm_cod M_Ref_goAw) (tab_Ref_goAw_c2.getD i (87, .iload 4, 2)).1 = .ok ((tab_Ref_goAw_c2.getD i (87, .iload 4, 2)).2.1, (tab_Ref_goAw_c2.getD i (87, .iload 4, 2)).2.2) := j_tab (by decide +kernel) i
theorem d_Ref_goAw_87 : decode (jm_cod M_Ref_goAw) 87 = .ok (.iload 4, 2) := dt_Ref_goAw_c2 0
theorem d_Ref_goAw_89 : decode (jm_cod M_Ref_goAw) 89 = .ok (.iconst 1, 1) := dt_Ref_goAw_c2 1
theorem d_Ref_goAw_90 : decode (jm_cod M_Ref_goAw) 90 = .ok (.bastore, 1) := dt_Ref_goAw_c2 2
theorem d_Ref_goAw_91 : decode (jm_cod M_Ref_goAw) 91 = .ok (.aload_n 0, 1) := dt_Ref_goAw_c2 3
theorem d_Ref_goAw_92 : decode (jm_cod M_Ref_goAw) 92 = .ok (.getfield 256, 3) := dt_Ref_goAw_c2 4
theorem d_Ref_goAw_95 : decode (jm_cod M_Ref_goAw) 95 = .ok (.iload 4, 2) := dt_Ref_goAw_c2 5
theorem d_Ref_goAw_97 : decode (jm_cod M_Ref_goAw) 97 = .ok (.lload_n 2, 1) := dt_Ref_goAw_c2 6
theorem d_Ref_goAw_98 : decode (jm_cod M_Ref_goAw) 98 = .ok (.lastore, 1) := dt_Ref_goAw_c2 7
theorem d_Ref_goAw_99 : decode (jm_cod M_Ref_goAw) 99 = .ok (.iconst 0, 1) := dt_Ref_goAw_c2 8
theorem d_Ref_goAw_100 : decode (jm_cod M_Ref_goAw) 100 = .ok (.istore 5, 2) := dt_Ref_goAw_c2 9
theorem d_Ref_goAw_102 : decode (jm_cod M_Ref_goAw) 102 = .ok (.iload 5, 2) := dt_Ref_goAw_c2 10
theorem d_Ref_goAw_104 : decode (jm_cod M_Ref_goAw) 104 = .ok (.aload_n 0, 1) := dt_Ref_goAw_c2 11
theorem d_Ref_goAw_105 : decode (jm_cod M_Ref_goAw) 105 = .ok (.getfield 259, 3) := dt_Ref_goAw_c2 12
theorem d_Ref_goAw_108 : decode (jm_cod M_Ref_goAw) 108 = .ok (.iload 4, 2) := dt_Ref_goAw_c2 13
theorem d_Ref_goAw_110 : decode (jm_cod M_Ref_goAw) 110 = .ok (.iaload, 1) := dt_Ref_goAw_c2 14
theorem d_Ref_goAw_111 : decode (jm_cod M_Ref_goAw) 111 = .ok (.if_icmp .ge 28, 3) := dt_Ref_goAw_c2 15
theorem d_Ref_goAw_114 : decode (jm_cod M_Ref_goAw) 114 = .ok (.aload_n 0, 1) := dt_Ref_goAw_c2 16
theorem d_Ref_goAw_115 : decode (jm_cod M_Ref_goAw) 115 = .ok (.getfield 238, 3) := dt_Ref_goAw_c2 17
theorem d_Ref_goAw_118 : decode (jm_cod M_Ref_goAw) 118 = .ok (.iload_n 1, 1) := dt_Ref_goAw_c2 18
theorem d_Ref_goAw_119 : decode (jm_cod M_Ref_goAw) 119 = .ok (.iaload, 1) := dt_Ref_goAw_c2 19
theorem d_Ref_goAw_120 : decode (jm_cod M_Ref_goAw) 120 = .ok (.ifCond .ne 19, 3) := dt_Ref_goAw_c2 20
theorem d_Ref_goAw_123 : decode (jm_cod M_Ref_goAw) 123 = .ok (.aload_n 0, 1) := dt_Ref_goAw_c2 21
theorem d_Ref_goAw_124 : decode (jm_cod M_Ref_goAw) 124 = .ok (.iload_n 1, 1) := dt_Ref_goAw_c2 22
theorem d_Ref_goAw_125 : decode (jm_cod M_Ref_goAw) 125 = .ok (.iload 4, 2) := dt_Ref_goAw_c2 23
def tab_Ref_goAw_c3 : List (Nat × Instr × Nat) := [(127, .iload 5, 2), (129, .iconst 0, 1), (130, .invokevirtual 437, 3), (133, .iinc 5 1, 3), (136, .goto (-34), 3), (139, .return_, 1)]
theorem dt_Ref_goAw_c3 (i : Nat) : decode (jm_cod M_Ref_goAw) (tab_Ref_goAw_c3.getD i (127, .iload 5, 2)).1 = .ok ((tab_Ref_goAw_c3.getD i (127, .iload 5, 2)).2.1, (tab_Ref_goAw_c3.getD i (127, .iload 5, 2)).2.2) := j_tab (by decide +kernel) i
theorem d_Ref_goAw_127 : decode (jm_cod M_Ref_goAw) 127 = .ok (.iload 5, 2) := dt_Ref_goAw_c3 0
theorem d_Ref_goAw_129 : decode (jm_cod M_Ref_goAw) 129 = .ok (.iconst 0, 1) := dt_Ref_goAw_c3 1
theorem d_Ref_goAw_130 : decode (jm_cod M_Ref_goAw) 130 = .ok (.invokevirtual 437, 3) := dt_Ref_goAw_c3 2
theorem d_Ref_goAw_133 : decode (jm_cod M_Ref_goAw) 133 = .ok (.iinc 5 1, 3) := dt_Ref_goAw_c3 3
theorem d_Ref_goAw_136 : decode (jm_cod M_Ref_goAw) 136 = .ok (.goto (-34), 3) := dt_Ref_goAw_c3 4
theorem d_Ref_goAw_139 : decode (jm_cod M_Ref_goAw) 139 = .ok (.return_, 1) := dt_Ref_goAw_c3 5
def tab_Ref_newWrite_c0 : List (Nat × Instr × Nat) := [(0, .aload_n 0, 1), (1, .getfield 247, 3), (4, .iload_n 1, 1), (5, .iaload, 1), (6, .bipush 16, 2), (8, .if_icmp .ne 13, 3), (11, .aload_n 0, 1), (12, .iload_n 1, 1), (13, .bipush 12, 2), (15, .iload_n 2, 1), (16, .invokevirtual 415, 3), (19, .iconst (-1), 1), (20, .ireturn, 1), (21, .bipush 16, 2), (23, .iload_n 1, 1), (24, .imul, 1), (25, .aload_n 0, 1), (26, .getfield 247, 3), (29, .iload_n 1, 1), (30, .iaload, 1), (31, .iadd, 1), (32, .istore_n 3, 1), (33, .aload_n 0, 1), (34, .getfield 253, 3)]
theorem dt_Ref_newWrite_c0 (i : Nat) : decode (jm_cod M_Ref_newWrite) (tab_Ref_newWrite_c0.getD i (0, .aload_n 0, 1)).1 = .ok ((tab_Ref_newWrite_c0.getD i (0, .aload_n 0, 1)).2.1, (tab_Ref_newWrite_c0.getD i (0, .aload_n 0, 1)).2.2) := j_tab (by decide +kernel) i
theorem d_Ref_newWrite_0 : decode (jm_cod M_Ref_newWrite) 0 = .ok (.aload_n 0, 1) := dt_Ref_newWrite_c0 0
theorem d_Ref_newWrite_1 : decode (jm_cod M_Ref_newWrite) 1 = .ok (.getfield 247, 3) := dt_Ref_newWrite_c0 1
theorem d_Ref_newWrite_4 : decode (jm_cod M_Ref_newWrite) 4 = .ok (.iload_n 1, 1) := dt_Ref_newWrite_c0 2
theorem d_Ref_newWrite_5 : decode (jm_cod M_Ref_newWrite) 5 = .ok (.iaload, 1) := dt_Ref_newWrite_c0 3
theorem d_Ref_newWrite_6 : decode (jm_cod M_Ref_newWrite) 6 = .ok (.bipush 16, 2) := dt_Ref_newWrite_c0 4
theorem d_Ref_newWrite_8 : decode (jm_cod M_Ref_newWrite) 8 = .ok (.if_icmp .ne 13, 3) := dt_Ref_newWrite_c0 5
theorem d_Ref_newWrite_11 : decode (jm_cod M_Ref_newWrite) 11 = .ok (.aload_n 0, 1) := dt_Ref_newWrite_c0 6
theorem d_Ref_newWrite_12 : decode (jm_cod M_Ref_newWrite) 12 = .ok (.iload_n 1, 1) := dt_Ref_newWrite_c0 7
theorem d_Ref_newWrite_13 : decode (jm_cod M_Ref_newWrite) 13 = .ok (.bipush 12, 2) := dt_Ref_newWrite_c0 8
theorem d_Ref_newWrite_15 : decode (jm_cod M_Ref_newWrite) 15 = .ok (.iload_n 2, 1) := dt_Ref_newWrite_c0 9
theorem d_Ref_newWrite_16 : decode (jm_cod M_Ref_newWrite) 16 = .ok (.invokevirtual 415, 3) := dt_Ref_newWrite_c0 10
theorem d_Ref_newWrite_19 : decode (jm_cod M_Ref_newWrite) 19 = .ok (.iconst (-1), 1) := dt_Ref_newWrite_c0 11
theorem d_Ref_newWrite_20 : decode (jm_cod M_Ref_newWrite) 20 = .ok (.ireturn, 1) := dt_Ref_newWrite_c0 12
theorem d_Ref_newWrite_21 : decode (jm_cod M_Ref_newWrite) 21 = .ok (.bipush 16, 2) := dt_Ref_newWrite_c0 13
theorem d_Ref_newWrite_23 : decode (jm_cod M_Ref_newWrite) 23 = .ok (.iload_n 1, 1) := dt_Ref_newWrite_c0 14
theorem d_Ref_newWrite_24 : decode (jm_cod M_Ref_newWrite) 24 = .ok (.imul, 1) := dt_Ref_newWrite_c0 15
theorem d_Ref_newWrite_25 : decode (jm_cod M_Ref_newWrite) 25 = .ok (.aload_n 0, 1) := dt_Ref_newWrite_c0 16
theorem d_Ref_newWrite_26 : decode (jm_cod M_Ref_newWrite) 26 = .ok (.getfield 247, 3) := dt_Ref_newWrite_c0 17
theorem d_Ref_newWrite_29 : decode (jm_cod M_Ref_newWrite) 29 = .ok (.iload_n 1, 1) := dt_Ref_newWrite_c0 18
theorem d_Ref_newWrite_30 : decode (jm_cod M_Ref_newWrite) 30 = .ok (.iaload, 1) := dt_Ref_newWrite_c0 19
theorem d_Ref_newWrite_31 : decode (jm_cod M_Ref_newWrite) 31 = .ok (.iadd, 1) := dt_Ref_newWrite_c0 20
theorem d_Ref_newWrite_32 : decode (jm_cod M_Ref_newWrite) 32 = .ok (.istore_n 3, 1) := dt_Ref_newWrite_c0 21
theorem d_Ref_newWrite_33 : decode (jm_cod M_Ref_newWrite) 33 = .ok (.aload_n 0, 1) := dt_Ref_newWrite_c0 22
theorem d_Ref_newWrite_34 : decode (jm_cod M_Ref_newWrite) 34 = .ok (.getfield 253, 3) := dt_Ref_newWrite_c0 23
def tab_Ref_newWrite_c1 : List (Nat × Instr × Nat) := [(37, .iload_n 3, 1), (38, .iconst 0, 1), (39, .bastore, 1), (40, .aload_n 0, 1), (41, .getfield 259, 3), (44, .iload_n 3, 1), (45, .iconst 0, 1), (46, .iastore, 1), (47, .aload_n 0, 1), (48, .getfield 262, 3), (51, .iload_n 3, 1), (52, .iconst 0, 1), (53, .bastore, 1), (54, .aload_n 0, 1), (55, .getfield 247, 3), (58, .iload_n 1, 1), (59, .dup2, 1), (60, .iaload, 1), (61, .iconst 1, 1), (62, .iadd, 1), (63, .iastore, 1), (64, .iload_n 3, 1), (65, .ireturn, 1)]
theorem dt_Ref_newWrite_c1 (i : Nat) : decode (jm_cod M_Ref_newWrite) (tab_Ref_newWrite_c1.getD i (37, .iload_n 3, 1)).1 = .ok ((tab_Ref_newWrite_c1.getD i (37, .iload_n 3, 1)).2.1, (tab_Ref_newWrite_c1.getD i (37, .iload_n 3, 1)).2.2) := j_tab (by decide +kernel) i
theorem d_Ref_newWrite_37 : decode (jm_cod M_Ref_newWrite) 37 = .ok (.iload_n 3, 1) := dt_Ref_newWrite_c1 0
theorem d_Ref_newWrite_38 : decode (jm_cod M_Ref_newWrite) 38 = .ok (.iconst 0, 1) := dt_Ref_newWrite_c1 1
theorem d_Ref_newWrite_39 : decode (jm_cod M_Ref_newWrite) 39 = .ok (.bastore, 1) := dt_Ref_newWrite_c1 2
theorem d_Ref_newWrite_40 : decode (jm_cod M_Ref_newWrite) 40 = .ok (.aload_n 0, 1) := dt_Ref_newWrite_c1 3
theorem d_Ref_newWrite_41 : decode (jm_cod M_Ref_newWrite) 41 = .ok (.getfield 259, 3) := dt_Ref_newWrite_c1 4
theorem d_Ref_newWrite_44 : decode (jm_cod M_Ref_newWrite) 44 = .ok (.iload_n 3, 1) := dt_Ref_newWrite_c1 5
theorem d_Ref_newWrite_45 : decode (jm_cod M_Ref_newWrite) 45 = .ok (.iconst 0, 1) := dt_Ref_newWrite_c1 6
theorem d_Ref_newWrite_46 : decode (jm_cod M_Ref_newWrite) 46 = .ok (.iastore, 1) := dt_Ref_newWrite_c1 7
theorem d_Ref_newWrite_47 : decode (jm_cod M_Ref_newWrite) 47 = .ok (.aload_n 0, 1) := dt_Ref_newWrite_c1 8
theorem d_Ref_newWrite_48 : decode (jm_cod M_Ref_newWrite) 48 = .ok (.getfield 262, 3) := dt_Ref_newWrite_c1 9
theorem d_Ref_newWrite_51 : decode (jm_cod M_Ref_newWrite) 51 = .ok (.iload_n 3, 1) := dt_Ref_newWrite_c1 10
theorem d_Ref_newWrite_52 : decode (jm_cod M_Ref_newWrite) 52 = .ok (.iconst 0, 1) := dt_Ref_newWrite_c1 11
theorem d_Ref_newWrite_53 : decode (jm_cod M_Ref_newWrite) 53 = .ok (.bastore, 1) := dt_Ref_newWrite_c1 12
theorem d_Ref_newWrite_54 : decode (jm_cod M_Ref_newWrite) 54 = .ok (.aload_n 0, 1) := dt_Ref_newWrite_c1 13
theorem d_Ref_newWrite_55 : decode (jm_cod M_Ref_newWrite) 55 = .ok (.getfield 247, 3) := dt_Ref_newWrite_c1 14
theorem d_Ref_newWrite_58 : decode (jm_cod M_Ref_newWrite) 58 = .ok (.iload_n 1, 1) := dt_Ref_newWrite_c1 15
theorem d_Ref_newWrite_59 : decode (jm_cod M_Ref_newWrite) 59 = .ok (.dup2, 1) := dt_Ref_newWrite_c1 16
theorem d_Ref_newWrite_60 : decode (jm_cod M_Ref_newWrite) 60 = .ok (.iaload, 1) := dt_Ref_newWrite_c1 17
theorem d_Ref_newWrite_61 : decode (jm_cod M_Ref_newWrite) 61 = .ok (.iconst 1, 1) := dt_Ref_newWrite_c1 18
theorem d_Ref_newWrite_62 : decode (jm_cod M_Ref_newWrite) 62 = .ok (.iadd, 1) := dt_Ref_newWrite_c1 19
theorem d_Ref_newWrite_63 : decode (jm_cod M_Ref_newWrite) 63 = .ok (.iastore, 1) := dt_Ref_newWrite_c1 20
theorem d_Ref_newWrite_64 : decode (jm_cod M_Ref_newWrite) 64 = .ok (.iload_n 3, 1) := dt_Ref_newWrite_c1 21
theorem d_Ref_newWrite_65 : decode (jm_cod M_Ref_newWrite) 65 = .ok (.ireturn, 1) := dt_Ref_newWrite_c1 22
def tab_Ref_checkBeat_c0 : List (Nat × Instr × Nat) := [(0, .aload_n 0, 1), (1, .getfield 256, 3), (4, .iload_n 2, 1), (5, .laload, 1), (6, .invokestatic 321, 3), (9, .istore 5, 2), (11, .aload_n 0, 1), (12, .getfield 265, 3), (15, .bipush 16, 2), (17, .iload_n 2, 1), (18, .imul, 1), (19, .iload_n 3, 1), (20, .iadd, 1), (21, .iaload, 1), (22, .sipush 256, 3), (25, .iand, 1), (26, .ifCond .eq 7, 3), (29, .iconst 1, 1), (30, .goto 4, 3), (33, .iconst 0, 1), (34, .istore 6, 2), (36, .iload_n 3, 1), (37, .iload 5, 2), (39, .iconst 1, 1)]
theorem dt_Ref_checkBeat_c0 (i : Nat) : decode (jm_cod M_Ref_checkBeat) (tab_Ref_checkBeat_c0.getD i (0, .aload_n 0, 1)).1 = .ok ((tab_Ref_checkBeat_c0.getD i (0, .aload_n 0, 1)).2.1, (tab_Ref_checkBeat_c0.getD i (0, .aload_n 0, 1)).2.2) := j_tab (by decide +kernel) i
theorem d_Ref_checkBeat_0 : decode (jm_cod M_Ref_checkBeat) 0 = .ok (.aload_n 0, 1) := dt_Ref_checkBeat_c0 0
theorem d_Ref_checkBeat_1 : decode (jm_cod M_Ref_checkBeat) 1 = .ok (.getfield 256, 3) := dt_Ref_checkBeat_c0 1
theorem d_Ref_checkBeat_4 : decode (jm_cod M_Ref_checkBeat) 4 = .ok (.iload_n 2, 1) := dt_Ref_checkBeat_c0 2
theorem d_Ref_checkBeat_5 : decode (jm_cod M_Ref_checkBeat) 5 = .ok (.laload, 1) := dt_Ref_checkBeat_c0 3
theorem d_Ref_checkBeat_6 : decode (jm_cod M_Ref_checkBeat) 6 = .ok (.invokestatic 321, 3) := dt_Ref_checkBeat_c0 4
theorem d_Ref_checkBeat_9 : decode (jm_cod M_Ref_checkBeat) 9 = .ok (.istore 5, 2) := dt_Ref_checkBeat_c0 5
theorem d_Ref_checkBeat_11 : decode (jm_cod M_Ref_checkBeat) 11 = .ok (.aload_n 0, 1) := dt_Ref_checkBeat_c0 6
theorem d_Ref_checkBeat_12 : decode (jm_cod M_Ref_checkBeat) 12 = .ok (.getfield 265, 3) := dt_Ref_checkBeat_c0 7
theorem d_Ref_checkBeat_15 : decode (jm_cod M_Ref_checkBeat) 15 = .ok (.bipush 16, 2) := dt_Ref_checkBeat_c0 8
theorem d_Ref_checkBeat_17 : decode (jm_cod M_Ref_checkBeat) 17 = .ok (.iload_n 2, 1) := dt_Ref_checkBeat_c0 9
theorem d_Ref_checkBeat_18 : decode (jm_cod M_Ref_checkBeat) 18 = .ok (.imul, 1) := dt_Ref_checkBeat_c0 10
theorem d_Ref_checkBeat_19 : decode (jm_cod M_Ref_checkBeat) 19 = .ok (.iload_n 3, 1) := dt_Ref_checkBeat_c0 11
theorem d_Ref_checkBeat_20 : decode (jm_cod M_Ref_checkBeat) 20 = .ok (.iadd, 1) := dt_Ref_checkBeat_c0 12
theorem d_Ref_checkBeat_21 : decode (jm_cod M_Ref_checkBeat) 21 = .ok (.iaload, 1) := dt_Ref_checkBeat_c0 13
theorem d_Ref_checkBeat_22 : decode (jm_cod M_Ref_checkBeat) 22 = .ok (.sipush 256, 3) := dt_Ref_checkBeat_c0 14
theorem d_Ref_checkBeat_25 : decode (jm_cod M_Ref_checkBeat) 25 = .ok (.iand, 1) := dt_Ref_checkBeat_c0 15
theorem d_Ref_checkBeat_26 : decode (jm_cod M_Ref_checkBeat) 26 = .ok (.ifCond .eq 7, 3) := dt_Ref_checkBeat_c0 16
theorem d_Ref_checkBeat_29 : decode (jm_cod M_Ref_checkBeat) 29 = .ok (.iconst 1, 1) := dt_Ref_checkBeat_c0 17
theorem d_Ref_checkBeat_30 : decode (jm_cod M_Ref_checkBeat) 30 = .ok (.goto 4, 3) := dt_Ref_checkBeat_c0 18
theorem d_Ref_checkBeat_33 : decode (jm_cod M_Ref_checkBeat) 33 = .ok (.iconst 0, 1) := dt_Ref_checkBeat_c0 19
theorem d_Ref_checkBeat_34 : decode (jm_cod M_Ref_checkBeat) 34 = .ok (.istore 6, 2) := dt_Ref_checkBeat_c0 20
theorem d_Ref_checkBeat_36 : decode (jm_cod M_Ref_checkBeat) 36 = .ok (.iload_n 3, 1) := dt_Ref_checkBeat_c0 21
theorem d_Ref_checkBeat_37 : decode (jm_cod M_Ref_checkBeat) 37 = .ok (.iload 5, 2) := dt_Ref_checkBeat_c0 22
theorem d_Ref_checkBeat_39 : decode (jm_cod M_Ref_checkBeat) 39 = .ok (.iconst 1, 1) := dt_Ref_checkBeat_c0 23
def tab_Ref_checkBeat_c1 : List (Nat × Instr × Nat) := [(40, .isub, 1), (41, .if_icmp .ne 11, 3), (44, .iload 6, 2), (46, .ifCond .ne 27, 3), (49, .goto 14, 3), (52, .iload 6, 2), (54, .ifCond .ne 9, 3), (57, .iload_n 3, 1), (58, .iload 5, 2), (60, .if_icmp .lt 13, 3), (63, .aload_n 0, 1), (64, .iload_n 1, 1), (65, .bipush 7, 2), (67, .iload 4, 2), (69, .invokevirtual 415, 3), (72, .return_, 1), (73, .aload_n 0, 1), (74, .getfield 256, 3), (77, .iload_n 2, 1), (78, .laload, 1), (79, .iload_n 3, 1), (80, .invokestatic 366, 3), (83, .aload_n 0, 1), (84, .getfield 256, 3)]
theorem dt_Ref_checkBeat_c1 (i : Nat) : decode (jm_cod M_Ref_checkBeat) (tab_Ref_checkBeat_c1.getD i (40, .isub, 1)).1 = .ok ((tab_Ref_checkBeat_c1.getD i (40, .isub, 1)).2.1, (tab_Ref_checkBeat_c1.getD i (40, .isub, 1)).2.2) := j_tab (by decide +kernel) i
theorem d_Ref_checkBeat_40 : decode (jm_cod M_Ref_checkBeat) 40 = .ok (.isub, 1) := dt_Ref_checkBeat_c1 0
theorem d_Ref_checkBeat_41 : decode (jm_cod M_Ref_checkBeat) 41 = .ok (.if_icmp .ne 11, 3) := dt_Ref_checkBeat_c1 1
theorem d_Ref_checkBeat_44 : decode (jm_cod M_Ref_checkBeat) 44 = .ok (.iload 6, 2) := dt_Ref_checkBeat_c1 2
theorem d_Ref_checkBeat_46 : decode (jm_cod M_Ref_checkBeat) 46 = .ok (.ifCond .ne 27, 3) := dt_Ref_checkBeat_c1 3
theorem d_Ref_checkBeat_49 : decode (jm_cod M_Ref_checkBeat) 49 = .ok (.goto 14, 3) := dt_Ref_checkBeat_c1 4
theorem d_Ref_checkBeat_52 : decode (jm_cod M_Ref_checkBeat) 52 = .ok (.iload 6, 2) := dt_Ref_checkBeat_c1 5
theorem d_Ref_checkBeat_54 : decode (jm_cod M_Ref_checkBeat) 54 = .ok (.ifCond .ne 9, 3) := dt_Ref_checkBeat_c1 6
theorem d_Ref_checkBeat_57 : decode (jm_cod M_Ref_checkBeat) 57 = .ok (.iload_n 3, 1) := dt_Ref_checkBeat_c1 7
theorem d_Ref_checkBeat_58 : decode (jm_cod M_Ref_checkBeat) 58 = .ok (.iload 5, 2) := dt_Ref_checkBeat_c1 8
theorem d_Ref_checkBeat_60 : decode (jm_cod M_Ref_checkBeat) 60 = .ok (.if_icmp .lt 13, 3) := dt_Ref_checkBeat_c1 9
theorem d_Ref_checkBeat_63 : decode (jm_cod M_Ref_checkBeat) 63 = .ok (.aload_n 0, 1) := dt_Ref_checkBeat_c1 10
theorem d_Ref_checkBeat_64 : decode (jm_cod M_Ref_checkBeat) 64 = .ok (.iload_n 1, 1) := dt_Ref_checkBeat_c1 11
theorem d_Ref_checkBeat_65 : decode (jm_cod M_Ref_checkBeat) 65 = .ok (.bipush 7, 2) := dt_Ref_checkBeat_c1 12
theorem d_Ref_checkBeat_67 : decode (jm_cod M_Ref_checkBeat) 67 = .ok (.iload 4, 2) := dt_Ref_checkBeat_c1 13
theorem d_Ref_checkBeat_69 : decode (jm_cod M_Ref_checkBeat) 69 = .ok (.invokevirtual 415, 3) := dt_Ref_checkBeat_c1 14
theorem d_Ref_checkBeat_72 : decode (jm_cod M_Ref_checkBeat) 72 = .ok (.return_, 1) := dt_Ref_checkBeat_c1 15
theorem d_Ref_checkBeat_73 : decode (jm_cod M_Ref_checkBeat) 73 = .ok (.aload_n 0, 1) := dt_Ref_checkBeat_c1 16
theorem d_Ref_checkBeat_74 : decode (jm_cod M_Ref_checkBeat) 74 = .ok (.getfield 256, 3) := dt_Ref_checkBeat_c1 17
theorem d_Ref_checkBeat_77 : decode (jm_cod M_Ref_checkBeat) 77 = .ok (.iload_n 2, 1) := dt_Ref_checkBeat_c1 18
theorem d_Ref_checkBeat_78 : decode (jm_cod M_Ref_checkBeat) 78 = .ok (.laload, 1) := dt_Ref_checkBeat_c1 19
theorem d_Ref_checkBeat_79 : decode (jm_cod M_Ref_checkBeat) 79 = .ok (.iload_n 3, 1) := dt_Ref_checkBeat_c1 20
theorem d_Ref_checkBeat_80 : decode (jm_cod M_Ref_checkBeat) 80 = .ok (.invokestatic 366, 3) := dt_Ref_checkBeat_c1 21
theorem d_Ref_checkBeat_83 : decode (jm_cod M_Ref_checkBeat) 83 = .ok (.aload_n 0, 1) := dt_Ref_checkBeat_c1 22
theorem d_Ref_checkBeat_84 : decode (jm_cod M_Ref_checkBeat) 84 = .ok (.getfield 256, 3) := dt_Ref_checkBeat_c1 23
def tab_Ref_checkBeat_c2 : List (Nat × Instr × Nat) := [(87, .iload_n 2, 1), (88, .laload, 1), (89, .invokestatic 318, 3), (92, .invokestatic 370, 3), (95, .istore 7, 2), (97, .aload_n 0, 1), (98, .getfield 265, 3), (101, .bipush 16, 2), (103, .iload_n 2, 1), (104, .imul, 1), (105, .iload_n 3, 1), (106, .iadd, 1), (107, .iaload, 1), (108, .sipush 255, 3), (111, .iand, 1), (112, .iload 7, 2), (114, .iconst (-1), 1), (115, .ixor, 1), (116, .iand, 1), (117, .ifCond .eq 12, 3), (120, .aload_n 0, 1), (121, .iload_n 1, 1), (122, .bipush 8, 2), (124, .iload 4, 2)]
theorem dt_Ref_checkBeat_c2 (i : Nat) : decode (jm_cod M_Ref_checkBeat) (tab_Ref_checkBeat_c2.getD i (87, .iload_n 2, 1)).1 = .ok ((tab_Ref_checkBeat_c2.getD i (87, .iload_n 2, 1)).2.1, (tab_Ref_checkBeat_c2.getD i (87, .iload_n 2, 1)).2.2) := j_tab (by decide +kernel) i
theorem d_Ref_checkBeat_87 : decode (jm_cod M_Ref_checkBeat) 87 = .ok (.iload_n 2, 1) := dt_Ref_checkBeat_c2 0
theorem d_Ref_checkBeat_88 : decode (jm_cod M_Ref_checkBeat) 88 = .ok (.laload, 1) := dt_Ref_checkBeat_c2 1
theorem d_Ref_checkBeat_89 : decode (jm_cod M_Ref_checkBeat) 89 = .ok (.invokestatic 318, 3) := dt_Ref_checkBeat_c2 2
theorem d_Ref_checkBeat_92 : decode (jm_cod M_Ref_checkBeat) 92 = .ok (.invokestatic 370, 3) := dt_Ref_checkBeat_c2 3
theorem d_Ref_checkBeat_95 : decode (jm_cod M_Ref_checkBeat) 95 = .ok (.istore 7, 2) := dt_Ref_checkBeat_c2 4
theorem d_Ref_checkBeat_97 : decode (jm_cod M_Ref_checkBeat) 97 = .ok (.aload_n 0, 1) := dt_Ref_checkBeat_c2 5
theorem d_Ref_checkBeat_98 : decode (jm_cod M_Ref_checkBeat) 98 = .ok (.getfield 265, 3) := dt_Ref_checkBeat_c2 6
theorem d_Ref_checkBeat_101 : decode (jm_cod M_Ref_checkBeat) 101 = .ok (.bipush 16, 2) := dt_Ref_checkBeat_c2 7
theorem d_Ref_checkBeat_103 : decode (jm_cod M_Ref_checkBeat) 103 = .ok (.iload_n 2, 1) := dt_Ref_checkBeat_c2 8
theorem d_Ref_checkBeat_104 : decode (jm_cod M_Ref_checkBeat) 104 = .ok (.imul, 1) := dt_Ref_checkBeat_c2 9
theorem d_Ref_checkBeat_105 : decode (jm_cod M_Ref_checkBeat) 105 = .ok (.iload_n 3, 1) := dt_Ref_checkBeat_c2 10
theorem d_Ref_checkBeat_106 : decode (jm_cod M_Ref_checkBeat) 106 = .ok (.iadd, 1) := dt_Ref_checkBeat_c2 11
theorem d_Ref_checkBeat_107 : decode (jm_cod M_Ref_checkBeat) 107 = .ok (.iaload, 1) := dt_Ref_checkBeat_c2 12
theorem d_Ref_checkBeat_108 : decode (jm_cod M_Ref_checkBeat) 108 = .ok (.sipush 255, 3) := dt_Ref_checkBeat_c2 13
theorem d_Ref_checkBeat_111 : decode (jm_cod M_Ref_checkBeat) 111 = .ok (.iand, 1) := dt_Ref_checkBeat_c2 14
theorem d_Ref_checkBeat_112 : decode (jm_cod M_Ref_checkBeat) 112 = .ok (.iload 7, 2) := dt_Ref_checkBeat_c2 15
theorem d_Ref_checkBeat_114 : decode (jm_cod M_Ref_checkBeat) 114 = .ok (.iconst (-1), 1) := dt_Ref_checkBeat_c2 16
theorem d_Ref_checkBeat_115 : decode (jm_cod M_Ref_checkBeat) 115 = .ok (.ixor, 1) := dt_Ref_checkBeat_c2 17
theorem d_Ref_checkBeat_116 : decode (jm_cod M_Ref_checkBeat) 116 = .ok (.iand, 1) := dt_Ref_checkBeat_c2 18
theorem d_Ref_checkBeat_117 : decode (jm_cod M_Ref_checkBeat) 117 = .ok (.ifCond .eq 12, 3) := dt_Ref_checkBeat_c2 19
theorem d_Ref_checkBeat_120 : decode (jm_cod M_Ref_checkBeat) 120 = .ok (.aload_n 0, 1) := dt_Ref_checkBeat_c2 20
theorem d_Ref_checkBeat_121 : decode (jm_cod M_Ref_checkBeat) 121 = .ok (.iload_n 1, 1) := dt_Ref_checkBeat_c2 21
theorem d_Ref_checkBeat_122 : decode (jm_cod M_Ref_checkBeat) 122 = .ok (.bipush 8, 2) := dt_Ref_checkBeat_c2 22
theorem d_Ref_checkBeat_124 : decode (jm_cod M_Ref_checkBeat) 124 = .ok (.iload 4, 2) := dt_Ref_checkBeat_c2 23
def tab_Ref_checkBeat_c3 : List (Nat × Instr × Nat) := [(126, .invokevirtual 415, 3), (129, .return_, 1)]
theorem dt_Ref_checkBeat_c3 (i : Nat) : decode (jm_cod M_Ref_checkBeat) (tab_Ref_checkBeat_c3.getD i (126, .invokevirtual 415, 3)).1 = .ok ((tab_Ref_checkBeat_c3.getD i (126, .invokevirtual 415, 3)).2.1, (tab_Ref_checkBeat_c3.getD i (126, .invokevirtual 415, 3)).2.2) := j_tab (by decide +kernel) i
theorem d_Ref_checkBeat_126 : decode (jm_cod M_Ref_checkBeat) 126 = .ok (.invokevirtual 415, 3) := dt_Ref_checkBeat_c3 0
theorem d_Ref_checkBeat_129 : decode (jm_cod M_Ref_checkBeat) 129 = .ok (.return_, 1) := dt_Ref_checkBeat_c3 1
def tab_Ref_goW_c0 : List (Nat × Instr × Nat) := [(0, .iconst (-1), 1), (1, .istore_n 3, 1), (2, .iconst 0, 1), (3, .istore 4, 2), (5, .iload 4, 2), (7, .aload_n 0, 1), (8, .getfield 247, 3), (11, .iload_n 1, 1), (12, .iaload, 1), (13, .if_icmp .ge 41, 3), (16, .iload_n 3, 1), (17, .iconst (-1), 1), (18, .if_icmp .ne 36, 3), (21, .aload_n 0, 1), (22, .getfield 262, 3), (25, .bipush 16, 2), (27, .iload_n 1, 1), (28, .imul, 1), (29, .iload 4, 2), (31, .iadd, 1), (32, .baload, 1), (33, .ifCond .eq 7, 3), (36, .iconst (-1), 1), (37, .goto 10, 3)]
theorem dt_Ref_goW_c0 (i : Nat) : decode (jm_cod M_Ref_goW) (tab_Ref_goW_c0.getD i (0, .iconst (-1), 1)).1 = .ok ((tab_Ref_goW_c0.getD i (0, .iconst (-1), 1)).2.1, (tab_Ref_goW_c0.getD i (0, .iconst (-1), 1)).2.2) := j_tab (by decide +kernel) i
theorem d_Ref_goW_0 : decode (jm_cod M_Ref_goW) 0 = .ok (.iconst (-1), 1) := dt_Ref_goW_c0 0
theorem d_Ref_goW_1 : decode (jm_cod M_Ref_goW) 1 = .ok (.istore_n 3, 1) := dt_Ref_goW_c0 1
theorem d_Ref_goW_2 : decode (jm_cod M_Ref_goW) 2 = .ok (.iconst 0, 1) := dt_Ref_goW_c0 2
theorem d_Ref_goW_3 : decode (jm_cod M_Ref_goW) 3 = .ok (.istore 4, 2) := dt_Ref_goW_c0 3
theorem d_Ref_goW_5 : decode (jm_cod M_Ref_goW) 5 = .ok (.iload 4, 2) := dt_Ref_goW_c0 4
theorem d_Ref_goW_7 : decode (jm_cod M_Ref_goW) 7 = .ok (.aload_n 0, 1) := dt_Ref_goW_c0 5
theorem d_Ref_goW_8 : decode (jm_cod M_Ref_goW) 8 = .ok (.getfield 247, 3) := dt_Ref_goW_c0 6
theorem d_Ref_goW_11 : decode (jm_cod M_Ref_goW) 11 = .ok (.iload_n 1, 1) := dt_Ref_goW_c0 7
theorem d_Ref_goW_12 : decode (jm_cod M_Ref_goW) 12 = .ok (.iaload, 1) := dt_Ref_goW_c0 8
theorem d_Ref_goW_13 : decode (jm_cod M_Ref_goW) 13 = .ok (.if_icmp .ge 41, 3) := dt_Ref_goW_c0 9
theorem d_Ref_goW_16 : decode (jm_cod M_Ref_goW) 16 = .ok (.iload_n 3, 1) := dt_Ref_goW_c0 10
theorem d_Ref_goW_17 : decode (jm_cod M_Ref_goW) 17 = .ok (.iconst (-1), 1) := dt_Ref_goW_c0 11
theorem d_Ref_goW_18 : decode (jm_cod M_Ref_goW) 18 = .ok (.if_icmp .ne 36, 3) := dt_Ref_goW_c0 12
theorem d_Ref_goW_21 : decode (jm_cod M_Ref_goW) 21 = .ok (.aload_n 0, 1) := dt_Ref_goW_c0 13
theorem d_Ref_goW_22 : decode (jm_cod M_Ref_goW) 22 = .ok (.getfield 262, 3) := dt_Ref_goW_c0 14
theorem d_Ref_goW_25 : decode (jm_cod M_Ref_goW) 25 = .ok (.bipush 16, 2) := dt_Ref_goW_c0 15
theorem d_Ref_goW_27 : decode (jm_cod M_Ref_goW) 27 = .ok (.iload_n 1, 1) := dt_Ref_goW_c0 16
theorem d_Ref_goW_28 : decode (jm_cod M_Ref_goW) 28 = .ok (.imul, 1) := dt_Ref_goW_c0 17
theorem d_Ref_goW_29 : decode (jm_cod M_Ref_goW) 29 = .ok (.iload 4, 2) := dt_Ref_goW_c0 18
theorem d_Ref_goW_31 : decode (jm_cod M_Ref_goW) 31 = .ok (.iadd, 1) := dt_Ref_goW_c0 19
theorem d_Ref_goW_32 : decode (jm_cod M_Ref_goW) 32 = .ok (.baload, 1) := dt_Ref_goW_c0 20
theorem d_Ref_goW_33 : decode (jm_cod M_Ref_goW) 33 = .ok (.ifCond .eq 7, 3) := dt_Ref_goW_c0 21
theorem d_Ref_goW_36 : decode (jm_cod M_Ref_goW) 36 = .ok (.iconst (-1), 1) := dt_Ref_goW_c0 22
theorem d_Ref_goW_37 : decode (jm_cod M_Ref_goW) 37 = .ok (.goto 10, 3) := dt_Ref_goW_c0 23
def tab_Ref_goW_c1 : List (Nat × Instr × Nat) := [(40, .bipush 16, 2), (42, .iload_n 1, 1), (43, .imul, 1), (44, .iload 4, 2), (46, .iadd, 1), (47, .istore_n 3, 1), (48, .iinc 4 1, 3), (51, .goto (-46), 3), (54, .iload_n 3, 1), (55, .iconst (-1), 1), (56, .if_icmp .ne 12, 3), (59, .aload_n 0, 1), (60, .iload_n 1, 1), (61, .iconst 1, 1), (62, .invokevirtual 434, 3), (65, .goto 4, 3), (68, .iload_n 3, 1), (69, .istore_n 3, 1), (70, .iload_n 3, 1), (71, .iconst (-1), 1), (72, .if_icmp .ne 4, 3), (75, .return_, 1), (76, .aload_n 0, 1), (77, .getfield 259, 3)]
theorem dt_Ref_goW_c1 (i : Nat) : decode (jm_cod M_Ref_goW) (tab_Ref_goW_c1.getD i (40, .bipush 16, 2)).1 = .ok ((tab_Ref_goW_c1.getD i (40, .bipush 16, 2)).2.1, (tab_Ref_goW_c1.getD i (40, .bipush 16, 2)).2.2) := j_tab (by decide +kernel) i
theorem d_Ref_goW_40 : decode (jm_cod M_Ref_goW) 40 = .ok (.bipush 16, 2) := dt_Ref_goW_c1 0
theorem d_Ref_goW_42 : decode (jm_cod M_Ref_goW) 42 = .ok (.iload_n 1, 1) := dt_Ref_goW_c1 1
theorem d_Ref_goW_43 : decode (jm_cod M_Ref_goW) 43 = .ok (.imul, 1) := dt_Ref_goW_c1 2
theorem d_Ref_goW_44 : decode (jm_cod M_Ref_goW) 44 = .ok (.iload 4, 2) := dt_Ref_goW_c1 3
theorem d_Ref_goW_46 : decode (jm_cod M_Ref_goW) 46 = .ok (.iadd, 1) := dt_Ref_goW_c1 4
theorem d_Ref_goW_47 : decode (jm_cod M_Ref_goW) 47 = .ok (.istore_n 3, 1) := dt_Ref_goW_c1 5
theorem d_Ref_goW_48 : decode (jm_cod M_Ref_goW) 48 = .ok (.iinc 4 1, 3) := dt_Ref_goW_c1 6
theorem d_Ref_goW_51 : decode (jm_cod M_Ref_goW) 51 = .ok (.goto (-46), 3) := dt_Ref_goW_c1 7
theorem d_Ref_goW_54 : decode (jm_cod M_Ref_goW) 54 = .ok (.iload_n 3, 1) := dt_Ref_goW_c1 8
theorem d_Ref_goW_55 : decode (jm_cod M_Ref_goW) 55 = .ok (.iconst (-1), 1) := dt_Ref_goW_c1 9
theorem d_Ref_goW_56 : decode (jm_cod M_Ref_goW) 56 = .ok (.if_icmp .ne 12, 3) := dt_Ref_goW_c1 10
theorem d_Ref_goW_59 : decode (jm_cod M_Ref_goW) 59 = .ok (.aload_n 0, 1) := dt_Ref_goW_c1 11
theorem d_Ref_goW_60 : decode (jm_cod M_Ref_goW) 60 = .ok (.iload_n 1, 1) := dt_Ref_goW_c1 12
theorem d_Ref_goW_61 : decode (jm_cod M_Ref_goW) 61 = .ok (.iconst 1, 1) := dt_Ref_goW_c1 13
theorem d_Ref_goW_62 : decode (jm_cod M_Ref_goW) 62 = .ok (.invokevirtual 434, 3) := dt_Ref_goW_c1 14
theorem d_Ref_goW_65 : decode (jm_cod M_Ref_goW) 65 = .ok (.goto 4, 3) := dt_Ref_goW_c1 15
theorem d_Ref_goW_68 : decode (jm_cod M_Ref_goW) 68 = .ok (.iload_n 3, 1) := dt_Ref_goW_c1 16
theorem d_Ref_goW_69 : decode (jm_cod M_Ref_goW) 69 = .ok (.istore_n 3, 1) := dt_Ref_goW_c1 17
theorem d_Ref_goW_70 : decode (jm_cod M_Ref_goW) 70 = .ok (.iload_n 3, 1) := dt_Ref_goW_c1 18
theorem d_Ref_goW_71 : decode (jm_cod M_Ref_goW) 71 = .ok (.iconst (-1), 1) := dt_Ref_goW_c1 19
theorem d_Ref_goW_72 : decode (jm_cod M_Ref_goW) 72 = .ok (.if_icmp .ne 4, 3) := dt_Ref_goW_c1 20
theorem d_Ref_goW_75 : decode (jm_cod M_Ref_goW) 75 = .ok (.return_, 1) := dt_Ref_goW_c1 21
theorem d_Ref_goW_76 : decode (jm_cod M_Ref_goW) 76 = .ok (.aload_n 0, 1) := dt_Ref_goW_c1 22
theorem d_Ref_goW_77 : decode (jm_cod M_Ref_goW) 77 = .ok (.getfield 259, 3) := dt_Ref_goW_c1 23
def tab_Ref_goW_c2 : List (Nat × Instr × Nat) := [(80, .iload_n 3, 1), (81, .iaload, 1), (82, .bipush 16, 2), (84, .if_icmp .ne 12, 3), (87, .aload_n 0, 1), (88, .iload_n 1, 1), (89, .bipush 7, 2), (91, .iconst 1, 1), (92, .invokevirtual 415, 3), (95, .return_, 1), (96, .aload_n 0, 1), (97, .getfield 265, 3), (100, .bipush 16, 2), (102, .iload_n 3, 1), (103, .imul, 1), (104, .aload_n 0, 1), (105, .getfield 259, 3), (108, .iload_n 3, 1), (109, .iaload, 1), (110, .iadd, 1), (111, .iload_n 2, 1), (112, .iastore, 1), (113, .aload_n 0, 1), (114, .getfield 259, 3)]
theorem dt_Ref_goW_c2 (i : Nat) : decode (jm_cod M_Ref_goW) (tab_Ref_goW_c2.getD i (80, .iload_n 3, 1)).1 = .ok ((tab_Ref_goW_c2.getD i (80, .iload_n 3, 1)).2.1, (tab_Ref_goW_c2.getD i (80, .iload_n 3, 1)).2.2) := j_tab (by decide +kernel) i
theorem d_Ref_goW_80 : decode (jm_cod M_Ref_goW) 80 = .ok (.iload_n 3, 1) := dt_Ref_goW_c2 0
theorem d_Ref_goW_81 : decode (jm_cod M_Ref_goW) 81 = .ok (.iaload, 1) := dt_Ref_goW_c2 1
theorem d_Ref_goW_82 : decode (jm_cod M_Ref_goW) 82 = .ok (.bipush 16, 2) := dt_Ref_goW_c2 2
theorem d_Ref_goW_84 : decode (jm_cod M_Ref_goW) 84 = .ok (.if_icmp .ne 12, 3) := dt_Ref_goW_c2 3
theorem d_Ref_goW_87 : decode (jm_cod M_Ref_goW) 87 = .ok (.aload_n 0, 1) := dt_Ref_goW_c2 4
theorem d_Ref_goW_88 : decode (jm_cod M_Ref_goW) 88 = .ok (.iload_n 1, 1) := dt_Ref_goW_c2 5
theorem d_Ref_goW_89 : decode (jm_cod M_Ref_goW) 89 = .ok (.bipush 7, 2) := dt_Ref_goW_c2 6
theorem d_Ref_goW_91 : decode (jm_cod M_Ref_goW) 91 = .ok (.iconst 1, 1) := dt_Ref_goW_c2 7
theorem d_Ref_goW_92 : decode (jm_cod M_Ref_goW) 92 = .ok (.invokevirtual 415, 3) := dt_Ref_goW_c2 8
theorem d_Ref_goW_95 : decode (jm_cod M_Ref_goW) 95 = .ok (.return_, 1) := dt_Ref_goW_c2 9
theorem d_Ref_goW_96 : decode (jm_cod M_Ref_goW) 96 = .ok (.aload_n 0, 1) := dt_Ref_goW_c2 10
theorem d_Ref_goW_97 : decode (jm_cod M_Ref_goW) 97 = .ok (.getfield 265, 3) := dt_Ref_goW_c2 11
theorem d_Ref_goW_100 : decode (jm_cod M_Ref_goW) 100 = .ok (.bipush 16, 2) := dt_Ref_goW_c2 12
theorem d_Ref_goW_102 : decode (jm_cod M_Ref_goW) 102 = .ok (.iload_n 3, 1) := dt_Ref_goW_c2 13
theorem d_Ref_goW_103 : decode (jm_cod M_Ref_goW) 103 = .ok (.imul, 1) := dt_Ref_goW_c2 14
theorem d_Ref_goW_104 : decode (jm_cod M_Ref_goW) 104 = .ok (.aload_n 0, 1) := dt_Ref_goW_c2 15
theorem d_Ref_goW_105 : decode (jm_cod M_Ref_goW) 105 = .ok (.getfield 259, 3) := dt_Ref_goW_c2 16
theorem d_Ref_goW_108 : decode (jm_cod M_Ref_goW) 108 = .ok (.iload_n 3, 1) := dt_Ref_goW_c2 17
theorem d_Ref_goW_109 : decode (jm_cod M_Ref_goW) 109 = .ok (.iaload, 1) := dt_Ref_goW_c2 18
theorem d_Ref_goW_110 : decode (jm_cod M_Ref_goW) 110 = .ok (.iadd, 1) := dt_Ref_goW_c2 19
theorem d_Ref_goW_111 : decode (jm_cod M_Ref_goW) 111 = .ok (.iload_n 2, 1) := dt_Ref_goW_c2 20
theorem d_Ref_goW_112 : decode (jm_cod M_Ref_goW) 112 = .ok (.iastore, 1) := dt_Ref_goW_c2 21
theorem d_Ref_goW_113 : decode (jm_cod M_Ref_goW) 113 = .ok (.aload_n 0, 1) := dt_Ref_goW_c2 22
theorem d_Ref_goW_114 : decode (jm_cod M_Ref_goW) 114 = .ok (.getfield 259, 3) := dt_Ref_goW_c2 23
def tab_Ref_goW_c3 : List (Nat × Instr × Nat) := [(117, .iload_n 3, 1), (118, .dup2, 1), (119, .iaload, 1), (120, .iconst 1, 1), (121, .iadd, 1), (122, .iastore, 1), (123, .aload_n 0, 1), (124, .getfield 262, 3), (127, .iload_n 3, 1), (128, .iload_n 2, 1), (129, .sipush 256, 3), (132, .iand, 1), (133, .ifCond .eq 7, 3), (136, .iconst 1, 1), (137, .goto 4, 3), (140, .iconst 0, 1), (141, .bastore, 1), (142, .aload_n 0, 1), (143, .getfield 253, 3), (146, .iload_n 3, 1), (147, .baload, 1), (148, .ifCond .eq 18, 3), (151, .aload_n 0, 1), (152, .iload_n 1, 1)]
theorem dt_Ref_goW_c3 (i : Nat) : decode (jm_cod M_Ref_goW) (tab_Ref_goW_c3.getD i (117, .iload_n 3, 1)).1 = .ok ((tab_Ref_goW_c3.getD i (117, .iload_n 3, 1)).2.1, (tab_Ref_goW_c3.getD i (117, .iload_n 3, 1)).2.2) := j_tab (by decide +kernel) i
theorem d_Ref_goW_117 : decode (jm_cod M_Ref_goW) 117 = .ok (.iload_n 3, 1) := dt_Ref_goW_c3 0
theorem d_Ref_goW_118 : decode (jm_cod M_Ref_goW) 118 = .ok (.dup2, 1) := dt_Ref_goW_c3 1
theorem d_Ref_goW_119 : decode (jm_cod M_Ref_goW) 119 = .ok (.iaload, 1) := dt_Ref_goW_c3 2
theorem d_Ref_goW_120 : decode (jm_cod M_Ref_goW) 120 = .ok (.iconst 1, 1) := dt_Ref_goW_c3 3
theorem d_Ref_goW_121 : decode (jm_cod M_Ref_goW) 121 = .ok (.iadd, 1) := dt_Ref_goW_c3 4
theorem d_Ref_goW_122 : decode (jm_cod M_Ref_goW) 122 = .ok (.iastore, 1) := dt_Ref_goW_c3 5
theorem d_Ref_goW_123 : decode (jm_cod M_Ref_goW) 123 = .ok (.aload_n 0, 1) := dt_Ref_goW_c3 6
theorem d_Ref_goW_124 : decode (jm_cod M_Ref_goW) 124 = .ok (.getfield 262, 3) := dt_Ref_goW_c3 7
theorem d_Ref_goW_127 : decode (jm_cod M_Ref_goW) 127 = .ok (.iload_n 3, 1) := dt_Ref_goW_c3 8
theorem d_Ref_goW_128 : decode (jm_cod M_Ref_goW) 128 = .ok (.iload_n 2, 1) := dt_Ref_goW_c3 9
theorem d_Ref_goW_129 : decode (jm_cod M_Ref_goW) 129 = .ok (.sipush 256, 3) := dt_Ref_goW_c3 10
theorem d_Ref_goW_132 : decode (jm_cod M_Ref_goW) 132 = .ok (.iand, 1) := dt_Ref_goW_c3 11
theorem d_Ref_goW_133 : decode (jm_cod M_Ref_goW) 133 = .ok (.ifCond .eq 7, 3) := dt_Ref_goW_c3 12
theorem d_Ref_goW_136 : decode (jm_cod M_Ref_goW) 136 = .ok (.iconst 1, 1) := dt_Ref_goW_c3 13
theorem d_Ref_goW_137 : decode (jm_cod M_Ref_goW) 137 = .ok (.goto 4, 3) := dt_Ref_goW_c3 14
theorem d_Ref_goW_140 : decode (jm_cod M_Ref_goW) 140 = .ok (.iconst 0, 1) := dt_Ref_goW_c3 15
theorem d_Ref_goW_141 : decode (jm_cod M_Ref_goW) 141 = .ok (.bastore, 1) := dt_Ref_goW_c3 16
theorem d_Ref_goW_142 : decode (jm_cod M_Ref_goW) 142 = .ok (.aload_n 0, 1) := dt_Ref_goW_c3 17
theorem d_Ref_goW_143 : decode (jm_cod M_Ref_goW) 143 = .ok (.getfield 253, 3) := dt_Ref_goW_c3 18
theorem d_Ref_goW_146 : decode (jm_cod M_Ref_goW) 146 = .ok (.iload_n 3, 1) := dt_Ref_goW_c3 19
theorem d_Ref_goW_147 : decode (jm_cod M_Ref_goW) 147 = .ok (.baload, 1) := dt_Ref_goW_c3 20
theorem d_Ref_goW_148 : decode (jm_cod M_Ref_goW) 148 = .ok (.ifCond .eq 18, 3) := dt_Ref_goW_c3 21
theorem d_Ref_goW_151 : decode (jm_cod M_Ref_goW) 151 = .ok (.aload_n 0, 1) := dt_Ref_goW_c3 22
theorem d_Ref_goW_152 : decode (jm_cod M_Ref_goW) 152 = .ok (.iload_n 1, 1) := dt_Ref_goW_c3 23
def tab_Ref_goW_c4 : List (Nat × Instr × Nat) := [(153, .iload_n 3, 1), (154, .aload_n 0, 1), (155, .getfield 259, 3), (158, .iload_n 3, 1), (159, .iaload, 1), (160, .iconst 1, 1), (161, .isub, 1), (162, .iconst 1, 1), (163, .invokevirtual 437, 3), (166, .return_, 1)]
theorem dt_Ref_goW_c4 (i : Nat) : decode (jm_cod M_Ref_goW) (tab_Ref_goW_c4.getD i (153, .iload_n 3, 1)).1 = .ok ((tab_Ref_goW_c4.getD i (153, .iload_n 3, 1)).2.1, (tab_Ref_goW_c4.getD i (153, .iload_n 3, 1)).2.2) := j_tab (by decide +kernel) i
theorem d_Ref_goW_153 : decode (jm_cod M_Ref_goW) 153 = .ok (.iload_n 3, 1) := dt_Ref_goW_c4 0
theorem d_Ref_goW_154 : decode (jm_cod M_Ref_goW) 154 = .ok (.aload_n 0, 1) := dt_Ref_goW_c4 1
theorem d_Ref_goW_155 : decode (jm_cod M_Ref_goW) 155 = .ok (.getfield 259, 3) := dt_Ref_goW_c4 2
theorem d_Ref_goW_158 : decode (jm_cod M_Ref_goW) 158 = .ok (.iload_n 3, 1) := dt_Ref_goW_c4 3
theorem d_Ref_goW_159 : decode (jm_cod M_Ref_goW) 159 = .ok (.iaload, 1) := dt_Ref_goW_c4 4
theorem d_Ref_goW_160 : decode (jm_cod M_Ref_goW) 160 = .ok (.iconst 1, 1) := dt_Ref_goW_c4 5
theorem d_Ref_goW_161 : decode (jm_cod M_Ref_goW) 161 = .ok (.isub, 1) := dt_Ref_goW_c4 6
theorem d_Ref_goW_162 : decode (jm_cod M_Ref_goW) 162 = .ok (.iconst 1, 1) := dt_Ref_goW_c4 7
theorem d_Ref_goW_163 : decode (jm_cod M_Ref_goW) 163 = .ok (.invokevirtual 437, 3) := dt_Ref_goW_c4 8
theorem d_Ref_goW_166 : decode (jm_cod M_Ref_goW) 166 = .ok (.return_, 1) := dt_Ref_goW_c4 9
def tab_Ref_goMaster_c0 : List (Nat × Instr × Nat) := [(0, .iload_n 2, 1), (1, .ifCond .eq 8, 3), (4, .iload_n 2, 1), (5, .iconst 3, 1), (6, .if_icmp .ne 12, 3), (9, .aload_n 0, 1), (10, .iload_n 1, 1), (11, .iload_n 2, 1), (12, .invokevirtual 498, 3), (15, .goto 22, 3), (18, .iload_n 2, 1), (19, .iconst 1, 1), (20, .if_icmp .ne 11, 3), (23, .aload_n 0, 1), (24, .iload_n 1, 1), (25, .invokevirtual 501, 3), (28, .goto 9, 3), (31, .aload_n 0, 1), (32, .iload_n 1, 1), (33, .iload_n 2, 1), (34, .invokevirtual 504, 3), (37, .return_, 1)]
theorem dt_Ref_goMaster_c0 (i : Nat) : decode (jm_cod M_Ref_goMaster) (tab_Ref_goMaster_c0.getD i (0, .iload_n 2, 1)).1 = .ok ((tab_Ref_goMaster_c0.getD i (0, .iload_n 2, 1)).2.1, (tab_Ref_goMaster_c0.getD i (0, .iload_n 2, 1)).2.2) := j_tab (by decide +kernel) i
theorem d_Ref_goMaster_0 : decode (jm_cod M_Ref_goMaster) 0 = .ok (.iload_n 2, 1) := dt_Ref_goMaster_c0 0
theorem d_Ref_goMaster_1 : decode (jm_cod M_Ref_goMaster) 1 = .ok (.ifCond .eq 8, 3) := dt_Ref_goMaster_c0 1
theorem d_Ref_goMaster_4 : decode (jm_cod M_Ref_goMaster) 4 = .ok (.iload_n 2, 1) := dt_Ref_goMaster_c0 2
theorem d_Ref_goMaster_5 : decode (jm_cod M_Ref_goMaster) 5 = .ok (.iconst 3, 1) := dt_Ref_goMaster_c0 3
theorem d_Ref_goMaster_6 : decode (jm_cod M_Ref_goMaster) 6 = .ok (.if_icmp .ne 12, 3) := dt_Ref_goMaster_c0 4
theorem d_Ref_goMaster_9 : decode (jm_cod M_Ref_goMaster) 9 = .ok (.aload_n 0, 1) := dt_Ref_goMaster_c0 5
theorem d_Ref_goMaster_10 : decode (jm_cod M_Ref_goMaster) 10 = .ok (.iload_n 1, 1) := dt_Ref_goMaster_c0 6
theorem d_Ref_goMaster_11 : decode (jm_cod M_Ref_goMaster) 11 = .ok (.iload_n 2, 1) := dt_Ref_goMaster_c0 7
theorem d_Ref_goMaster_12 : decode (jm_cod M_Ref_goMaster) 12 = .ok (.invokevirtual 498, 3) := dt_Ref_goMaster_c0 8
theorem d_Ref_goMaster_15 : decode (jm_cod M_Ref_goMaster) 15 = .ok (.goto 22, 3) := dt_Ref_goMaster_c0 9
theorem d_Ref_goMaster_18 : decode (jm_cod M_Ref_goMaster) 18 = .ok (.iload_n 2, 1) := dt_Ref_goMaster_c0 10
theorem d_Ref_goMaster_19 : decode (jm_cod M_Ref_goMaster) 19 = .ok (.iconst 1, 1) := dt_Ref_goMaster_c0 11
theorem d_Ref_goMaster_20 : decode (jm_cod M_Ref_goMaster) 20 = .ok (.if_icmp .ne 11, 3) := dt_Ref_goMaster_c0 12
theorem d_Ref_goMaster_23 : decode (jm_cod M_Ref_goMaster) 23 = .ok (.aload_n 0, 1) := dt_Ref_goMaster_c0 13
theorem d_Ref_goMaster_24 : decode (jm_cod M_Ref_goMaster) 24 = .ok (.iload_n 1, 1) := dt_Ref_goMaster_c0 14
theorem d_Ref_goMaster_25 : decode (jm_cod M_Ref_goMaster) 25 = .ok (.invokevirtual 501, 3) := dt_Ref_goMaster_c0 15
theorem d_Ref_goMaster_28 : decode (jm_cod M_Ref_goMaster) 28 = .ok (.goto 9, 3) := dt_Ref_goMaster_c0 16
theorem d_Ref_goMaster_31 : decode (jm_cod M_Ref_goMaster) 31 = .ok (.aload_n 0, 1) := dt_Ref_goMaster_c0 17
theorem d_Ref_goMaster_32 : decode (jm_cod M_Ref_goMaster) 32 = .ok (.iload_n 1, 1) := dt_Ref_goMaster_c0 18
theorem d_Ref_goMaster_33 : decode (jm_cod M_Ref_goMaster) 33 = .ok (.iload_n 2, 1) := dt_Ref_goMaster_c0 19
theorem d_Ref_goMaster_34 : decode (jm_cod M_Ref_goMaster) 34 = .ok (.invokevirtual 504, 3) := dt_Ref_goMaster_c0 20
theorem d_Ref_goMaster_37 : decode (jm_cod M_Ref_goMaster) 37 = .ok (.return_, 1) := dt_Ref_goMaster_c0 21
def tab_Ref_addressSent_c0 : List (Nat × Instr × Nat) := [(0, .iconst 5, 1), (1, .iload_n 1, 1), (2, .imul, 1), (3, .iload_n 2, 1), (4, .iadd, 1), (5, .istore_n 3, 1), (6, .aload_n 0, 1), (7, .aload_n 0, 1), (8, .iconst 0, 1), (9, .iload_n 1, 1), (10, .iload_n 2, 1), (11, .invokevirtual 388, 3), (14, .aload_n 0, 1), (15, .getfield 94, 3), (18, .iload_n 3, 1), (19, .laload, 1), (20, .iconst 0, 1), (21, .aload_n 0, 1), (22, .getfield 348, 3), (25, .invokevirtual 469, 3), (28, .aload_n 0, 1), (29, .getfield 73, 3), (32, .aload_n 0, 1), (33, .iload_n 1, 1)]
theorem dt_Ref_addressSent_c0 (i : Nat) : decode (jm_cod M_Ref_addressSent) (tab_Ref_addressSent_c0.getD i (0, .iconst 5, 1)).1 = .ok ((tab_Ref_addressSent_c0.getD i (0, .iconst 5, 1)).2.1, (tab_Ref_addressSent_c0.getD i (0, .iconst 5, 1)).2.2) := j_tab (by decide +kernel) i
theorem d_Ref_addressSent_0 : decode (jm_cod M_Ref_addressSent) 0 = .ok (.iconst 5, 1) := dt_Ref_addressSent_c0 0
theorem d_Ref_addressSent_1 : decode (jm_cod M_Ref_addressSent) 1 = .ok (.iload_n 1, 1) := dt_Ref_addressSent_c0 1
theorem d_Ref_addressSent_2 : decode (jm_cod M_Ref_addressSent) 2 = .ok (.imul, 1) := dt_Ref_addressSent_c0 2
theorem d_Ref_addressSent_3 : decode (jm_cod M_Ref_addressSent) 3 = .ok (.iload_n 2, 1) := dt_Ref_addressSent_c0 3
theorem d_Ref_addressSent_4 : decode (jm_cod M_Ref_addressSent) 4 = .ok (.iadd, 1) := dt_Ref_addressSent_c0 4
theorem d_Ref_addressSent_5 : decode (jm_cod M_Ref_addressSent) 5 = .ok (.istore_n 3, 1) := dt_Ref_addressSent_c0 5
theorem d_Ref_addressSent_6 : decode (jm_cod M_Ref_addressSent) 6 = .ok (.aload_n 0, 1) := dt_Ref_addressSent_c0 6
theorem d_Ref_addressSent_7 : decode (jm_cod M_Ref_addressSent) 7 = .ok (.aload_n 0, 1) := dt_Ref_addressSent_c0 7
theorem d_Ref_addressSent_8 : decode (jm_cod M_Ref_addressSent) 8 = .ok (.iconst 0, 1) := dt_Ref_addressSent_c0 8
theorem d_Ref_addressSent_9 : decode (jm_cod M_Ref_addressSent) 9 = .ok (.iload_n 1, 1) := dt_Ref_addressSent_c0 9
theorem d_Ref_addressSent_10 : decode (jm_cod M_Ref_addressSent) 10 = .ok (.iload_n 2, 1) := dt_Ref_addressSent_c0 10
theorem d_Ref_addressSent_11 : decode (jm_cod M_Ref_addressSent) 11 = .ok (.invokevirtual 388, 3) := dt_Ref_addressSent_c0 11
theorem d_Ref_addressSent_14 : decode (jm_cod M_Ref_addressSent) 14 = .ok (.aload_n 0, 1) := dt_Ref_addressSent_c0 12
theorem d_Ref_addressSent_15 : decode (jm_cod M_Ref_addressSent) 15 = .ok (.getfield 94, 3) := dt_Ref_addressSent_c0 13
theorem d_Ref_addressSent_18 : decode (jm_cod M_Ref_addressSent) 18 = .ok (.iload_n 3, 1) := dt_Ref_addressSent_c0 14
theorem d_Ref_addressSent_19 : decode (jm_cod M_Ref_addressSent) 19 = .ok (.laload, 1) := dt_Ref_addressSent_c0 15
theorem d_Ref_addressSent_20 : decode (jm_cod M_Ref_addressSent) 20 = .ok (.iconst 0, 1) := dt_Ref_addressSent_c0 16
theorem d_Ref_addressSent_21 : decode (jm_cod M_Ref_addressSent) 21 = .ok (.aload_n 0, 1) := dt_Ref_addressSent_c0 17
theorem d_Ref_addressSent_22 : decode (jm_cod M_Ref_addressSent) 22 = .ok (.getfield 348, 3) := dt_Ref_addressSent_c0 18
theorem d_Ref_addressSent_25 : decode (jm_cod M_Ref_addressSent) 25 = .ok (.invokevirtual 469, 3) := dt_Ref_addressSent_c0 19
theorem d_Ref_addressSent_28 : decode (jm_cod M_Ref_addressSent) 28 = .ok (.aload_n 0, 1) := dt_Ref_addressSent_c0 20
theorem d_Ref_addressSent_29 : decode (jm_cod M_Ref_addressSent) 29 = .ok (.getfield 73, 3) := dt_Ref_addressSent_c0 21
theorem d_Ref_addressSent_32 : decode (jm_cod M_Ref_addressSent) 32 = .ok (.aload_n 0, 1) := dt_Ref_addressSent_c0 22
theorem d_Ref_addressSent_33 : decode (jm_cod M_Ref_addressSent) 33 = .ok (.iload_n 1, 1) := dt_Ref_addressSent_c0 23
