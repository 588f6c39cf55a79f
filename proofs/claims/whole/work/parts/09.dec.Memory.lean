def tab_Memory_init_c0 : List (Nat × Instr × Nat) := [(0, .aload_n 0, 1), (1, .invokespecial 3, 3), (4, .aload_n 0, 1), (5, .sipush 8192, 3), (8, .newarray .long, 2), (10, .putfield 9, 3), (13, .aload_n 0, 1), (14, .sipush 1024, 3), (17, .newarray .long, 2), (19, .putfield 15, 3), (22, .return_, 1)]
theorem dt_Memory_init_c0 (i : Nat) : decode (jm_cod M_Memory_init) (tab_Memory_init_c0.getD i (0, .aload_n 0, 1)).1 = .ok ((tab_Memory_init_c0.getD i (0, .aload_n 0, 1)).2.1, (tab_Memory_init_c0.getD i (0, .aload_n 0, 1)).2.2) := j_tab (by decide +kernel) i
theorem d_Memory_init_0 : decode (jm_cod M_Memory_init) 0 = .ok (.aload_n 0, 1) := dt_Memory_init_c0 0
theorem d_Memory_init_1 : decode (jm_cod M_Memory_init) 1 = .ok (.invokespecial 3, 3) := dt_Memory_init_c0 1
theorem d_Memory_init_4 : decode (jm_cod M_Memory_init) 4 = .ok (.aload_n 0, 1) := dt_Memory_init_c0 2
theorem d_Memory_init_5 : decode (jm_cod M_Memory_init) 5 = .ok (.sipush 8192, 3) := dt_Memory_init_c0 3
theorem d_Memory_init_8 : decode (jm_cod M_Memory_init) 8 = .ok (.newarray .long, 2) := dt_Memory_init_c0 4
theorem d_Memory_init_10 : decode (jm_cod M_Memory_init) 10 = .ok (.putfield 9, 3) := dt_Memory_init_c0 5
theorem d_Memory_init_13 : decode (jm_cod M_Memory_init) 13 = .ok (.aload_n 0, 1) := dt_Memory_init_c0 6
theorem d_Memory_init_14 : decode (jm_cod M_Memory_init) 14 = .ok (.sipush 1024, 3) := dt_Memory_init_c0 7
theorem d_Memory_init_17 : decode (jm_cod M_Memory_init) 17 = .ok (.newarray .long, 2) := dt_Memory_init_c0 8
theorem d_Memory_init_19 : decode (jm_cod M_Memory_init) 19 = .ok (.putfield 15, 3) := dt_Memory_init_c0 9
theorem d_Memory_init_22 : decode (jm_cod M_Memory_init) 22 = .ok (.return_, 1) := dt_Memory_init_c0 10
def tab_Memory_reset_c0 : List (Nat × Instr × Nat) := [(0, .aload_n 0, 1), (1, .getfield 9, 3), (4, .lconst 0, 1), (5, .invokestatic 18, 3), (8, .aload_n 0, 1), (9, .getfield 15, 3), (12, .lconst 0, 1), (13, .invokestatic 18, 3), (16, .return_, 1)]
theorem dt_Memory_reset_c0 (i : Nat) : decode (jm_cod M_Memory_reset) (tab_Memory_reset_c0.getD i (0, .aload_n 0, 1)).1 = .ok ((tab_Memory_reset_c0.getD i (0, .aload_n 0, 1)).2.1, (tab_Memory_reset_c0.getD i (0, .aload_n 0, 1)).2.2) := j_tab (by decide +kernel) i
theorem d_Memory_reset_0 : decode (jm_cod M_Memory_reset) 0 = .ok (.aload_n 0, 1) := dt_Memory_reset_c0 0
theorem d_Memory_reset_1 : decode (jm_cod M_Memory_reset) 1 = .ok (.getfield 9, 3) := dt_Memory_reset_c0 1
theorem d_Memory_reset_4 : decode (jm_cod M_Memory_reset) 4 = .ok (.lconst 0, 1) := dt_Memory_reset_c0 2
theorem d_Memory_reset_5 : decode (jm_cod M_Memory_reset) 5 = .ok (.invokestatic 18, 3) := dt_Memory_reset_c0 3
theorem d_Memory_reset_8 : decode (jm_cod M_Memory_reset) 8 = .ok (.aload_n 0, 1) := dt_Memory_reset_c0 4
theorem d_Memory_reset_9 : decode (jm_cod M_Memory_reset) 9 = .ok (.getfield 15, 3) := dt_Memory_reset_c0 5
theorem d_Memory_reset_12 : decode (jm_cod M_Memory_reset) 12 = .ok (.lconst 0, 1) := dt_Memory_reset_c0 6
theorem d_Memory_reset_13 : decode (jm_cod M_Memory_reset) 13 = .ok (.invokestatic 18, 3) := dt_Memory_reset_c0 7
theorem d_Memory_reset_16 : decode (jm_cod M_Memory_reset) 16 = .ok (.return_, 1) := dt_Memory_reset_c0 8
def tab_Memory_mark_c0 : List (Nat × Instr × Nat) := [(0, .iload_n 1, 1), (1, .iload_n 2, 1), (2, .iadd, 1), (3, .iconst 1, 1), (4, .isub, 1), (5, .istore 4, 2), (7, .iload_n 1, 1), (8, .invokestatic 34, 3), (11, .istore 5, 2), (13, .iload 4, 2), (15, .invokestatic 34, 3), (18, .istore 6, 2), (20, .iconst 0, 1), (21, .istore 7, 2), (23, .iload 5, 2), (25, .istore 8, 2), (27, .iload 8, 2), (29, .iload 6, 2), (31, .if_icmp .gt 113, 3), (34, .ldc2_w 32, 3), (37, .lstore 9, 2), (39, .iload 8, 2), (41, .iload 5, 2), (43, .if_icmp .ne 16, 3)]
theorem dt_Memory_mark_c0 (i : Nat) : decode (jm_cod M_Memory_mark) (tab_Memory_mark_c0.getD i (0, .iload_n 1, 1)).1 = .ok ((tab_Memory_mark_c0.getD i (0, .iload_n 1, 1)).2.1, (tab_Memory_mark_c0.getD i (0, .iload_n 1, 1)).2.2) := j_tab (by decide +kernel) i
theorem d_Memory_mark_0 : decode (jm_cod M_Memory_mark) 0 = .ok (.iload_n 1, 1) := dt_Memory_mark_c0 0
theorem d_Memory_mark_1 : decode (jm_cod M_Memory_mark) 1 = .ok (.iload_n 2, 1) := dt_Memory_mark_c0 1
theorem d_Memory_mark_2 : decode (jm_cod M_Memory_mark) 2 = .ok (.iadd, 1) := dt_Memory_mark_c0 2
theorem d_Memory_mark_3 : decode (jm_cod M_Memory_mark) 3 = .ok (.iconst 1, 1) := dt_Memory_mark_c0 3
theorem d_Memory_mark_4 : decode (jm_cod M_Memory_mark) 4 = .ok (.isub, 1) := dt_Memory_mark_c0 4
theorem d_Memory_mark_5 : decode (jm_cod M_Memory_mark) 5 = .ok (.istore 4, 2) := dt_Memory_mark_c0 5
theorem d_Memory_mark_7 : decode (jm_cod M_Memory_mark) 7 = .ok (.iload_n 1, 1) := dt_Memory_mark_c0 6
theorem d_Memory_mark_8 : decode (jm_cod M_Memory_mark) 8 = .ok (.invokestatic 34, 3) := dt_Memory_mark_c0 7
theorem d_Memory_mark_11 : decode (jm_cod M_Memory_mark) 11 = .ok (.istore 5, 2) := dt_Memory_mark_c0 8
theorem d_Memory_mark_13 : decode (jm_cod M_Memory_mark) 13 = .ok (.iload 4, 2) := dt_Memory_mark_c0 9
theorem d_Memory_mark_15 : decode (jm_cod M_Memory_mark) 15 = .ok (.invokestatic 34, 3) := dt_Memory_mark_c0 10
theorem d_Memory_mark_18 : decode (jm_cod M_Memory_mark) 18 = .ok (.istore 6, 2) := dt_Memory_mark_c0 11
theorem d_Memory_mark_20 : decode (jm_cod M_Memory_mark) 20 = .ok (.iconst 0, 1) := dt_Memory_mark_c0 12
theorem d_Memory_mark_21 : decode (jm_cod M_Memory_mark) 21 = .ok (.istore 7, 2) := dt_Memory_mark_c0 13
theorem d_Memory_mark_23 : decode (jm_cod M_Memory_mark) 23 = .ok (.iload 5, 2) := dt_Memory_mark_c0 14
theorem d_Memory_mark_25 : decode (jm_cod M_Memory_mark) 25 = .ok (.istore 8, 2) := dt_Memory_mark_c0 15
theorem d_Memory_mark_27 : decode (jm_cod M_Memory_mark) 27 = .ok (.iload 8, 2) := dt_Memory_mark_c0 16
theorem d_Memory_mark_29 : decode (jm_cod M_Memory_mark) 29 = .ok (.iload 6, 2) := dt_Memory_mark_c0 17
theorem d_Memory_mark_31 : decode (jm_cod M_Memory_mark) 31 = .ok (.if_icmp .gt 113, 3) := dt_Memory_mark_c0 18
theorem d_Memory_mark_34 : decode (jm_cod M_Memory_mark) 34 = .ok (.ldc2_w 32, 3) := dt_Memory_mark_c0 19
theorem d_Memory_mark_37 : decode (jm_cod M_Memory_mark) 37 = .ok (.lstore 9, 2) := dt_Memory_mark_c0 20
theorem d_Memory_mark_39 : decode (jm_cod M_Memory_mark) 39 = .ok (.iload 8, 2) := dt_Memory_mark_c0 21
theorem d_Memory_mark_41 : decode (jm_cod M_Memory_mark) 41 = .ok (.iload 5, 2) := dt_Memory_mark_c0 22
theorem d_Memory_mark_43 : decode (jm_cod M_Memory_mark) 43 = .ok (.if_icmp .ne 16, 3) := dt_Memory_mark_c0 23
def tab_Memory_mark_c1 : List (Nat × Instr × Nat) := [(46, .lload 9, 2), (48, .ldc2_w 32, 3), (51, .iload_n 1, 1), (52, .bipush 63, 2), (54, .iand, 1), (55, .lshl, 1), (56, .land, 1), (57, .lstore 9, 2), (59, .iload 8, 2), (61, .iload 6, 2), (63, .if_icmp .ne 20, 3), (66, .lload 9, 2), (68, .ldc2_w 32, 3), (71, .bipush 63, 2), (73, .iload 4, 2), (75, .bipush 63, 2), (77, .iand, 1), (78, .isub, 1), (79, .lushr, 1), (80, .land, 1), (81, .lstore 9, 2), (83, .aload_n 0, 1), (84, .getfield 15, 3), (87, .iload 8, 2)]
theorem dt_Memory_mark_c1 (i : Nat) : decode (jm_cod M_Memory_mark) (tab_Memory_mark_c1.getD i (46, .lload 9, 2)).1 = .ok ((tab_Memory_mark_c1.getD i (46, .lload 9, 2)).2.1, (tab_Memory_mark_c1.getD i (46, .lload 9, 2)).2.2) := j_tab (by decide +kernel) i
theorem d_Memory_mark_46 : decode (jm_cod M_Memory_mark) 46 = .ok (.lload 9, 2) := dt_Memory_mark_c1 0
theorem d_Memory_mark_48 : decode (jm_cod M_Memory_mark) 48 = .ok (.ldc2_w 32, 3) := dt_Memory_mark_c1 1
theorem d_Memory_mark_51 : decode (jm_cod M_Memory_mark) 51 = .ok (.iload_n 1, 1) := dt_Memory_mark_c1 2
theorem d_Memory_mark_52 : decode (jm_cod M_Memory_mark) 52 = .ok (.bipush 63, 2) := dt_Memory_mark_c1 3
theorem d_Memory_mark_54 : decode (jm_cod M_Memory_mark) 54 = .ok (.iand, 1) := dt_Memory_mark_c1 4
theorem d_Memory_mark_55 : decode (jm_cod M_Memory_mark) 55 = .ok (.lshl, 1) := dt_Memory_mark_c1 5
theorem d_Memory_mark_56 : decode (jm_cod M_Memory_mark) 56 = .ok (.land, 1) := dt_Memory_mark_c1 6
theorem d_Memory_mark_57 : decode (jm_cod M_Memory_mark) 57 = .ok (.lstore 9, 2) := dt_Memory_mark_c1 7
theorem d_Memory_mark_59 : decode (jm_cod M_Memory_mark) 59 = .ok (.iload 8, 2) := dt_Memory_mark_c1 8
theorem d_Memory_mark_61 : decode (jm_cod M_Memory_mark) 61 = .ok (.iload 6, 2) := dt_Memory_mark_c1 9
theorem d_Memory_mark_63 : decode (jm_cod M_Memory_mark) 63 = .ok (.if_icmp .ne 20, 3) := dt_Memory_mark_c1 10
theorem d_Memory_mark_66 : decode (jm_cod M_Memory_mark) 66 = .ok (.lload 9, 2) := dt_Memory_mark_c1 11
theorem d_Memory_mark_68 : decode (jm_cod M_Memory_mark) 68 = .ok (.ldc2_w 32, 3) := dt_Memory_mark_c1 12
theorem d_Memory_mark_71 : decode (jm_cod M_Memory_mark) 71 = .ok (.bipush 63, 2) := dt_Memory_mark_c1 13
theorem d_Memory_mark_73 : decode (jm_cod M_Memory_mark) 73 = .ok (.iload 4, 2) := dt_Memory_mark_c1 14
theorem d_Memory_mark_75 : decode (jm_cod M_Memory_mark) 75 = .ok (.bipush 63, 2) := dt_Memory_mark_c1 15
theorem d_Memory_mark_77 : decode (jm_cod M_Memory_mark) 77 = .ok (.iand, 1) := dt_Memory_mark_c1 16
theorem d_Memory_mark_78 : decode (jm_cod M_Memory_mark) 78 = .ok (.isub, 1) := dt_Memory_mark_c1 17
theorem d_Memory_mark_79 : decode (jm_cod M_Memory_mark) 79 = .ok (.lushr, 1) := dt_Memory_mark_c1 18
theorem d_Memory_mark_80 : decode (jm_cod M_Memory_mark) 80 = .ok (.land, 1) := dt_Memory_mark_c1 19
theorem d_Memory_mark_81 : decode (jm_cod M_Memory_mark) 81 = .ok (.lstore 9, 2) := dt_Memory_mark_c1 20
theorem d_Memory_mark_83 : decode (jm_cod M_Memory_mark) 83 = .ok (.aload_n 0, 1) := dt_Memory_mark_c1 21
theorem d_Memory_mark_84 : decode (jm_cod M_Memory_mark) 84 = .ok (.getfield 15, 3) := dt_Memory_mark_c1 22
theorem d_Memory_mark_87 : decode (jm_cod M_Memory_mark) 87 = .ok (.iload 8, 2) := dt_Memory_mark_c1 23
def tab_Memory_mark_c2 : List (Nat × Instr × Nat) := [(89, .laload, 1), (90, .lstore 11, 2), (92, .aload_n 0, 1), (93, .getfield 15, 3), (96, .iload 8, 2), (98, .iload_n 3, 1), (99, .ifCond .eq 11, 3), (102, .lload 11, 2), (104, .lload 9, 2), (106, .lor, 1), (107, .goto 12, 3), (110, .lload 11, 2), (112, .lload 9, 2), (114, .ldc2_w 32, 3), (117, .lxor, 1), (118, .land, 1), (119, .lastore, 1), (120, .iload 7, 2), (122, .lload 11, 2), (124, .aload_n 0, 1), (125, .getfield 15, 3), (128, .iload 8, 2), (130, .laload, 1), (131, .lxor, 1)]
theorem dt_Memory_mark_c2 (i : Nat) : decode (jm_cod M_Memory_mark) (tab_Memory_mark_c2.getD i (89, .laload, 1)).1 = .ok ((tab_Memory_mark_c2.getD i (89, .laload, 1)).2.1, (tab_Memory_mark_c2.getD i (89, .laload, 1)).2.2) := j_tab (by decide +kernel) i
theorem d_Memory_mark_89 : decode (jm_cod M_Memory_mark) 89 = .ok (.laload, 1) := dt_Memory_mark_c2 0
theorem d_Memory_mark_90 : decode (jm_cod M_Memory_mark) 90 = .ok (.lstore 11, 2) := dt_Memory_mark_c2 1
theorem d_Memory_mark_92 : decode (jm_cod M_Memory_mark) 92 = .ok (.aload_n 0, 1) := dt_Memory_mark_c2 2
theorem d_Memory_mark_93 : decode (jm_cod M_Memory_mark) 93 = .ok (.getfield 15, 3) := dt_Memory_mark_c2 3
theorem d_Memory_mark_96 : decode (jm_cod M_Memory_mark) 96 = .ok (.iload 8, 2) := dt_Memory_mark_c2 4
theorem d_Memory_mark_98 : decode (jm_cod M_Memory_mark) 98 = .ok (.iload_n 3, 1) := dt_Memory_mark_c2 5
theorem d_Memory_mark_99 : decode (jm_cod M_Memory_mark) 99 = .ok (.ifCond .eq 11, 3) := dt_Memory_mark_c2 6
theorem d_Memory_mark_102 : decode (jm_cod M_Memory_mark) 102 = .ok (.lload 11, 2) := dt_Memory_mark_c2 7
theorem d_Memory_mark_104 : decode (jm_cod M_Memory_mark) 104 = .ok (.lload 9, 2) := dt_Memory_mark_c2 8
theorem d_Memory_mark_106 : decode (jm_cod M_Memory_mark) 106 = .ok (.lor, 1) := dt_Memory_mark_c2 9
theorem d_Memory_mark_107 : decode (jm_cod M_Memory_mark) 107 = .ok (.goto 12, 3) := dt_Memory_mark_c2 10
theorem d_Memory_mark_110 : decode (jm_cod M_Memory_mark) 110 = .ok (.lload 11, 2) := dt_Memory_mark_c2 11
theorem d_Memory_mark_112 : decode (jm_cod M_Memory_mark) 112 = .ok (.lload 9, 2) := dt_Memory_mark_c2 12
theorem d_Memory_mark_114 : decode (jm_cod M_Memory_mark) 114 = .ok (.ldc2_w 32, 3) := dt_Memory_mark_c2 13
theorem d_Memory_mark_117 : decode (jm_cod M_Memory_mark) 117 = .ok (.lxor, 1) := dt_Memory_mark_c2 14
theorem d_Memory_mark_118 : decode (jm_cod M_Memory_mark) 118 = .ok (.land, 1) := dt_Memory_mark_c2 15
theorem d_Memory_mark_119 : decode (jm_cod M_Memory_mark) 119 = .ok (.lastore, 1) := dt_Memory_mark_c2 16
theorem d_Memory_mark_120 : decode (jm_cod M_Memory_mark) 120 = .ok (.iload 7, 2) := dt_Memory_mark_c2 17
theorem d_Memory_mark_122 : decode (jm_cod M_Memory_mark) 122 = .ok (.lload 11, 2) := dt_Memory_mark_c2 18
theorem d_Memory_mark_124 : decode (jm_cod M_Memory_mark) 124 = .ok (.aload_n 0, 1) := dt_Memory_mark_c2 19
theorem d_Memory_mark_125 : decode (jm_cod M_Memory_mark) 125 = .ok (.getfield 15, 3) := dt_Memory_mark_c2 20
theorem d_Memory_mark_128 : decode (jm_cod M_Memory_mark) 128 = .ok (.iload 8, 2) := dt_Memory_mark_c2 21
theorem d_Memory_mark_130 : decode (jm_cod M_Memory_mark) 130 = .ok (.laload, 1) := dt_Memory_mark_c2 22
theorem d_Memory_mark_131 : decode (jm_cod M_Memory_mark) 131 = .ok (.lxor, 1) := dt_Memory_mark_c2 23
def tab_Memory_mark_c3 : List (Nat × Instr × Nat) := [(132, .invokestatic 37, 3), (135, .iadd, 1), (136, .istore 7, 2), (138, .iinc 8 1, 3), (141, .goto (-114), 3), (144, .iload 7, 2), (146, .ireturn, 1)]
theorem dt_Memory_mark_c3 (i : Nat) : decode (jm_cod M_Memory_mark) (tab_Memory_mark_c3.getD i (132, .invokestatic 37, 3)).1 = .ok ((tab_Memory_mark_c3.getD i (132, .invokestatic 37, 3)).2.1, (tab_Memory_mark_c3.getD i (132, .invokestatic 37, 3)).2.2) := j_tab (by decide +kernel) i
theorem d_Memory_mark_132 : decode (jm_cod M_Memory_mark) 132 = .ok (.invokestatic 37, 3) := dt_Memory_mark_c3 0
theorem d_Memory_mark_135 : decode (jm_cod M_Memory_mark) 135 = .ok (.iadd, 1) := dt_Memory_mark_c3 1
theorem d_Memory_mark_136 : decode (jm_cod M_Memory_mark) 136 = .ok (.istore 7, 2) := dt_Memory_mark_c3 2
theorem d_Memory_mark_138 : decode (jm_cod M_Memory_mark) 138 = .ok (.iinc 8 1, 3) := dt_Memory_mark_c3 3
theorem d_Memory_mark_141 : decode (jm_cod M_Memory_mark) 141 = .ok (.goto (-114), 3) := dt_Memory_mark_c3 4
theorem d_Memory_mark_144 : decode (jm_cod M_Memory_mark) 144 = .ok (.iload 7, 2) := dt_Memory_mark_c3 5
theorem d_Memory_mark_146 : decode (jm_cod M_Memory_mark) 146 = .ok (.ireturn, 1) := dt_Memory_mark_c3 6
def tab_Memory_spoiltWordOf_c0 : List (Nat × Instr × Nat) := [(0, .iload_n 0, 1), (1, .bipush 6, 2), (3, .ishr, 1), (4, .sipush 1023, 3), (7, .iand, 1), (8, .ireturn, 1)]
theorem dt_Memory_spoiltWordOf_c0 (i : Nat) : decode (jm_cod M_Memory_spoiltWordOf) (tab_Memory_spoiltWordOf_c0.getD i (0, .iload_n 0, 1)).1 = .ok ((tab_Memory_spoiltWordOf_c0.getD i (0, .iload_n 0, 1)).2.1, (tab_Memory_spoiltWordOf_c0.getD i (0, .iload_n 0, 1)).2.2) := j_tab (by decide +kernel) i
theorem d_Memory_spoiltWordOf_0 : decode (jm_cod M_Memory_spoiltWordOf) 0 = .ok (.iload_n 0, 1) := dt_Memory_spoiltWordOf_c0 0
theorem d_Memory_spoiltWordOf_1 : decode (jm_cod M_Memory_spoiltWordOf) 1 = .ok (.bipush 6, 2) := dt_Memory_spoiltWordOf_c0 1
theorem d_Memory_spoiltWordOf_3 : decode (jm_cod M_Memory_spoiltWordOf) 3 = .ok (.ishr, 1) := dt_Memory_spoiltWordOf_c0 2
theorem d_Memory_spoiltWordOf_4 : decode (jm_cod M_Memory_spoiltWordOf) 4 = .ok (.sipush 1023, 3) := dt_Memory_spoiltWordOf_c0 3
theorem d_Memory_spoiltWordOf_7 : decode (jm_cod M_Memory_spoiltWordOf) 7 = .ok (.iand, 1) := dt_Memory_spoiltWordOf_c0 4
theorem d_Memory_spoiltWordOf_8 : decode (jm_cod M_Memory_spoiltWordOf) 8 = .ok (.ireturn, 1) := dt_Memory_spoiltWordOf_c0 5
def tab_Memory_byteAt_c0 : List (Nat × Instr × Nat) := [(0, .aload_n 0, 1), (1, .getfield 9, 3), (4, .iload_n 1, 1), (5, .invokestatic 24, 3), (8, .laload, 1), (9, .bipush 8, 2), (11, .iload_n 1, 1), (12, .bipush 7, 2), (14, .iand, 1), (15, .imul, 1), (16, .lshr, 1), (17, .l2i, 1), (18, .sipush 255, 3), (21, .iand, 1), (22, .ireturn, 1)]
theorem dt_Memory_byteAt_c0 (i : Nat) : decode (jm_cod M_Memory_byteAt) (tab_Memory_byteAt_c0.getD i (0, .aload_n 0, 1)).1 = .ok ((tab_Memory_byteAt_c0.getD i (0, .aload_n 0, 1)).2.1, (tab_Memory_byteAt_c0.getD i (0, .aload_n 0, 1)).2.2) := j_tab (by decide +kernel) i
theorem d_Memory_byteAt_0 : decode (jm_cod M_Memory_byteAt) 0 = .ok (.aload_n 0, 1) := dt_Memory_byteAt_c0 0
theorem d_Memory_byteAt_1 : decode (jm_cod M_Memory_byteAt) 1 = .ok (.getfield 9, 3) := dt_Memory_byteAt_c0 1
theorem d_Memory_byteAt_4 : decode (jm_cod M_Memory_byteAt) 4 = .ok (.iload_n 1, 1) := dt_Memory_byteAt_c0 2
theorem d_Memory_byteAt_5 : decode (jm_cod M_Memory_byteAt) 5 = .ok (.invokestatic 24, 3) := dt_Memory_byteAt_c0 3
theorem d_Memory_byteAt_8 : decode (jm_cod M_Memory_byteAt) 8 = .ok (.laload, 1) := dt_Memory_byteAt_c0 4
theorem d_Memory_byteAt_9 : decode (jm_cod M_Memory_byteAt) 9 = .ok (.bipush 8, 2) := dt_Memory_byteAt_c0 5
theorem d_Memory_byteAt_11 : decode (jm_cod M_Memory_byteAt) 11 = .ok (.iload_n 1, 1) := dt_Memory_byteAt_c0 6
theorem d_Memory_byteAt_12 : decode (jm_cod M_Memory_byteAt) 12 = .ok (.bipush 7, 2) := dt_Memory_byteAt_c0 7
theorem d_Memory_byteAt_14 : decode (jm_cod M_Memory_byteAt) 14 = .ok (.iand, 1) := dt_Memory_byteAt_c0 8
theorem d_Memory_byteAt_15 : decode (jm_cod M_Memory_byteAt) 15 = .ok (.imul, 1) := dt_Memory_byteAt_c0 9
theorem d_Memory_byteAt_16 : decode (jm_cod M_Memory_byteAt) 16 = .ok (.lshr, 1) := dt_Memory_byteAt_c0 10
theorem d_Memory_byteAt_17 : decode (jm_cod M_Memory_byteAt) 17 = .ok (.l2i, 1) := dt_Memory_byteAt_c0 11
theorem d_Memory_byteAt_18 : decode (jm_cod M_Memory_byteAt) 18 = .ok (.sipush 255, 3) := dt_Memory_byteAt_c0 12
theorem d_Memory_byteAt_21 : decode (jm_cod M_Memory_byteAt) 21 = .ok (.iand, 1) := dt_Memory_byteAt_c0 13
theorem d_Memory_byteAt_22 : decode (jm_cod M_Memory_byteAt) 22 = .ok (.ireturn, 1) := dt_Memory_byteAt_c0 14
def tab_Memory_wordOf_c0 : List (Nat × Instr × Nat) := [(0, .iload_n 0, 1), (1, .iconst 3, 1), (2, .ishr, 1), (3, .sipush 8191, 3), (6, .iand, 1), (7, .ireturn, 1)]
theorem dt_Memory_wordOf_c0 (i : Nat) : decode (jm_cod M_Memory_wordOf) (tab_Memory_wordOf_c0.getD i (0, .iload_n 0, 1)).1 = .ok ((tab_Memory_wordOf_c0.getD i (0, .iload_n 0, 1)).2.1, (tab_Memory_wordOf_c0.getD i (0, .iload_n 0, 1)).2.2) := j_tab (by decide +kernel) i
theorem d_Memory_wordOf_0 : decode (jm_cod M_Memory_wordOf) 0 = .ok (.iload_n 0, 1) := dt_Memory_wordOf_c0 0
theorem d_Memory_wordOf_1 : decode (jm_cod M_Memory_wordOf) 1 = .ok (.iconst 3, 1) := dt_Memory_wordOf_c0 1
theorem d_Memory_wordOf_2 : decode (jm_cod M_Memory_wordOf) 2 = .ok (.ishr, 1) := dt_Memory_wordOf_c0 2
theorem d_Memory_wordOf_3 : decode (jm_cod M_Memory_wordOf) 3 = .ok (.sipush 8191, 3) := dt_Memory_wordOf_c0 3
theorem d_Memory_wordOf_6 : decode (jm_cod M_Memory_wordOf) 6 = .ok (.iand, 1) := dt_Memory_wordOf_c0 4
theorem d_Memory_wordOf_7 : decode (jm_cod M_Memory_wordOf) 7 = .ok (.ireturn, 1) := dt_Memory_wordOf_c0 5
def tab_Memory_store_c0 : List (Nat × Instr × Nat) := [(0, .iload 4, 2), (2, .invokestatic 28, 3), (5, .lstore 5, 2), (7, .iload_n 1, 1), (8, .invokestatic 24, 3), (11, .istore 7, 2), (13, .aload_n 0, 1), (14, .getfield 9, 3), (17, .iload 7, 2), (19, .aload_n 0, 1), (20, .getfield 9, 3), (23, .iload 7, 2), (25, .laload, 1), (26, .lload 5, 2), (28, .ldc2_w 32, 3), (31, .lxor, 1), (32, .land, 1), (33, .lload_n 2, 1), (34, .lload 5, 2), (36, .land, 1), (37, .lor, 1), (38, .lastore, 1), (39, .return_, 1)]
theorem dt_Memory_store_c0 (i : Nat) : decode (jm_cod M_Memory_store) (tab_Memory_store_c0.getD i (0, .iload 4, 2)).1 = .ok ((tab_Memory_store_c0.getD i (0, .iload 4, 2)).2.1, (tab_Memory_store_c0.getD i (0, .iload 4, 2)).2.2) := j_tab (by decide +kernel) i
theorem d_Memory_store_0 : decode (jm_cod M_Memory_store) 0 = .ok (.iload 4, 2) := dt_Memory_store_c0 0
theorem d_Memory_store_2 : decode (jm_cod M_Memory_store) 2 = .ok (.invokestatic 28, 3) := dt_Memory_store_c0 1
theorem d_Memory_store_5 : decode (jm_cod M_Memory_store) 5 = .ok (.lstore 5, 2) := dt_Memory_store_c0 2
theorem d_Memory_store_7 : decode (jm_cod M_Memory_store) 7 = .ok (.iload_n 1, 1) := dt_Memory_store_c0 3
theorem d_Memory_store_8 : decode (jm_cod M_Memory_store) 8 = .ok (.invokestatic 24, 3) := dt_Memory_store_c0 4
theorem d_Memory_store_11 : decode (jm_cod M_Memory_store) 11 = .ok (.istore 7, 2) := dt_Memory_store_c0 5
theorem d_Memory_store_13 : decode (jm_cod M_Memory_store) 13 = .ok (.aload_n 0, 1) := dt_Memory_store_c0 6
theorem d_Memory_store_14 : decode (jm_cod M_Memory_store) 14 = .ok (.getfield 9, 3) := dt_Memory_store_c0 7
theorem d_Memory_store_17 : decode (jm_cod M_Memory_store) 17 = .ok (.iload 7, 2) := dt_Memory_store_c0 8
theorem d_Memory_store_19 : decode (jm_cod M_Memory_store) 19 = .ok (.aload_n 0, 1) := dt_Memory_store_c0 9
theorem d_Memory_store_20 : decode (jm_cod M_Memory_store) 20 = .ok (.getfield 9, 3) := dt_Memory_store_c0 10
theorem d_Memory_store_23 : decode (jm_cod M_Memory_store) 23 = .ok (.iload 7, 2) := dt_Memory_store_c0 11
theorem d_Memory_store_25 : decode (jm_cod M_Memory_store) 25 = .ok (.laload, 1) := dt_Memory_store_c0 12
theorem d_Memory_store_26 : decode (jm_cod M_Memory_store) 26 = .ok (.lload 5, 2) := dt_Memory_store_c0 13
theorem d_Memory_store_28 : decode (jm_cod M_Memory_store) 28 = .ok (.ldc2_w 32, 3) := dt_Memory_store_c0 14
theorem d_Memory_store_31 : decode (jm_cod M_Memory_store) 31 = .ok (.lxor, 1) := dt_Memory_store_c0 15
theorem d_Memory_store_32 : decode (jm_cod M_Memory_store) 32 = .ok (.land, 1) := dt_Memory_store_c0 16
theorem d_Memory_store_33 : decode (jm_cod M_Memory_store) 33 = .ok (.lload_n 2, 1) := dt_Memory_store_c0 17
theorem d_Memory_store_34 : decode (jm_cod M_Memory_store) 34 = .ok (.lload 5, 2) := dt_Memory_store_c0 18
theorem d_Memory_store_36 : decode (jm_cod M_Memory_store) 36 = .ok (.land, 1) := dt_Memory_store_c0 19
theorem d_Memory_store_37 : decode (jm_cod M_Memory_store) 37 = .ok (.lor, 1) := dt_Memory_store_c0 20
theorem d_Memory_store_38 : decode (jm_cod M_Memory_store) 38 = .ok (.lastore, 1) := dt_Memory_store_c0 21
theorem d_Memory_store_39 : decode (jm_cod M_Memory_store) 39 = .ok (.return_, 1) := dt_Memory_store_c0 22
def tab_Memory_isSpoilt_c0 : List (Nat × Instr × Nat) := [(0, .aload_n 0, 1), (1, .getfield 15, 3), (4, .iload_n 1, 1), (5, .invokestatic 34, 3), (8, .laload, 1), (9, .iload_n 1, 1), (10, .bipush 56, 2), (12, .iand, 1), (13, .lshr, 1), (14, .iload_n 2, 1), (15, .i2l, 1), (16, .land, 1), (17, .lconst 0, 1), (18, .lcmp, 1), (19, .ifCond .eq 7, 3), (22, .iconst 1, 1), (23, .goto 4, 3), (26, .iconst 0, 1), (27, .ireturn, 1)]
theorem dt_Memory_isSpoilt_c0 (i : Nat) : decode (jm_cod M_Memory_isSpoilt) (tab_Memory_isSpoilt_c0.getD i (0, .aload_n 0, 1)).1 = .ok ((tab_Memory_isSpoilt_c0.getD i (0, .aload_n 0, 1)).2.1, (tab_Memory_isSpoilt_c0.getD i (0, .aload_n 0, 1)).2.2) := j_tab (by decide +kernel) i
theorem d_Memory_isSpoilt_0 : decode (jm_cod M_Memory_isSpoilt) 0 = .ok (.aload_n 0, 1) := dt_Memory_isSpoilt_c0 0
theorem d_Memory_isSpoilt_1 : decode (jm_cod M_Memory_isSpoilt) 1 = .ok (.getfield 15, 3) := dt_Memory_isSpoilt_c0 1
theorem d_Memory_isSpoilt_4 : decode (jm_cod M_Memory_isSpoilt) 4 = .ok (.iload_n 1, 1) := dt_Memory_isSpoilt_c0 2
theorem d_Memory_isSpoilt_5 : decode (jm_cod M_Memory_isSpoilt) 5 = .ok (.invokestatic 34, 3) := dt_Memory_isSpoilt_c0 3
theorem d_Memory_isSpoilt_8 : decode (jm_cod M_Memory_isSpoilt) 8 = .ok (.laload, 1) := dt_Memory_isSpoilt_c0 4
theorem d_Memory_isSpoilt_9 : decode (jm_cod M_Memory_isSpoilt) 9 = .ok (.iload_n 1, 1) := dt_Memory_isSpoilt_c0 5
theorem d_Memory_isSpoilt_10 : decode (jm_cod M_Memory_isSpoilt) 10 = .ok (.bipush 56, 2) := dt_Memory_isSpoilt_c0 6
theorem d_Memory_isSpoilt_12 : decode (jm_cod M_Memory_isSpoilt) 12 = .ok (.iand, 1) := dt_Memory_isSpoilt_c0 7
theorem d_Memory_isSpoilt_13 : decode (jm_cod M_Memory_isSpoilt) 13 = .ok (.lshr, 1) := dt_Memory_isSpoilt_c0 8
theorem d_Memory_isSpoilt_14 : decode (jm_cod M_Memory_isSpoilt) 14 = .ok (.iload_n 2, 1) := dt_Memory_isSpoilt_c0 9
theorem d_Memory_isSpoilt_15 : decode (jm_cod M_Memory_isSpoilt) 15 = .ok (.i2l, 1) := dt_Memory_isSpoilt_c0 10
theorem d_Memory_isSpoilt_16 : decode (jm_cod M_Memory_isSpoilt) 16 = .ok (.land, 1) := dt_Memory_isSpoilt_c0 11
theorem d_Memory_isSpoilt_17 : decode (jm_cod M_Memory_isSpoilt) 17 = .ok (.lconst 0, 1) := dt_Memory_isSpoilt_c0 12
theorem d_Memory_isSpoilt_18 : decode (jm_cod M_Memory_isSpoilt) 18 = .ok (.lcmp, 1) := dt_Memory_isSpoilt_c0 13
theorem d_Memory_isSpoilt_19 : decode (jm_cod M_Memory_isSpoilt) 19 = .ok (.ifCond .eq 7, 3) := dt_Memory_isSpoilt_c0 14
theorem d_Memory_isSpoilt_22 : decode (jm_cod M_Memory_isSpoilt) 22 = .ok (.iconst 1, 1) := dt_Memory_isSpoilt_c0 15
theorem d_Memory_isSpoilt_23 : decode (jm_cod M_Memory_isSpoilt) 23 = .ok (.goto 4, 3) := dt_Memory_isSpoilt_c0 16
theorem d_Memory_isSpoilt_26 : decode (jm_cod M_Memory_isSpoilt) 26 = .ok (.iconst 0, 1) := dt_Memory_isSpoilt_c0 17
theorem d_Memory_isSpoilt_27 : decode (jm_cod M_Memory_isSpoilt) 27 = .ok (.ireturn, 1) := dt_Memory_isSpoilt_c0 18
def tab_Memory_load_c0 : List (Nat × Instr × Nat) := [(0, .aload_n 0, 1), (1, .getfield 9, 3), (4, .iload_n 1, 1), (5, .invokestatic 24, 3), (8, .laload, 1), (9, .iload_n 2, 1), (10, .invokestatic 28, 3), (13, .land, 1), (14, .lreturn, 1)]
theorem dt_Memory_load_c0 (i : Nat) : decode (jm_cod M_Memory_load) (tab_Memory_load_c0.getD i (0, .aload_n 0, 1)).1 = .ok ((tab_Memory_load_c0.getD i (0, .aload_n 0, 1)).2.1, (tab_Memory_load_c0.getD i (0, .aload_n 0, 1)).2.2) := j_tab (by decide +kernel) i
theorem d_Memory_load_0 : decode (jm_cod M_Memory_load) 0 = .ok (.aload_n 0, 1) := dt_Memory_load_c0 0
theorem d_Memory_load_1 : decode (jm_cod M_Memory_load) 1 = .ok (.getfield 9, 3) := dt_Memory_load_c0 1
theorem d_Memory_load_4 : decode (jm_cod M_Memory_load) 4 = .ok (.iload_n 1, 1) := dt_Memory_load_c0 2
theorem d_Memory_load_5 : decode (jm_cod M_Memory_load) 5 = .ok (.invokestatic 24, 3) := dt_Memory_load_c0 3
theorem d_Memory_load_8 : decode (jm_cod M_Memory_load) 8 = .ok (.laload, 1) := dt_Memory_load_c0 4
theorem d_Memory_load_9 : decode (jm_cod M_Memory_load) 9 = .ok (.iload_n 2, 1) := dt_Memory_load_c0 5
theorem d_Memory_load_10 : decode (jm_cod M_Memory_load) 10 = .ok (.invokestatic 28, 3) := dt_Memory_load_c0 6
theorem d_Memory_load_13 : decode (jm_cod M_Memory_load) 13 = .ok (.land, 1) := dt_Memory_load_c0 7
theorem d_Memory_load_14 : decode (jm_cod M_Memory_load) 14 = .ok (.lreturn, 1) := dt_Memory_load_c0 8
