def tab_Switch_init_c0 : List (Nat × Instr × Nat) := [(0, .aload_n 0, 1), (1, .invokespecial 3, 3), (4, .aload_n 0, 1), (5, .bipush 16, 2), (7, .newarray .int, 2), (9, .putfield 9, 3), (12, .aload_n 0, 1), (13, .iload_n 1, 1), (14, .putfield 15, 3), (17, .aload_n 0, 1), (18, .iload_n 2, 1), (19, .putfield 19, 3), (22, .aload_n 0, 1), (23, .iload_n 3, 1), (24, .putfield 22, 3), (27, .aload_n 0, 1), (28, .iload_n 1, 1), (29, .invokestatic 25, 3), (32, .putfield 29, 3), (35, .aload_n 0, 1), (36, .iload_n 2, 1), (37, .iconst 1, 1), (38, .iadd, 1), (39, .invokestatic 25, 3)]
theorem dt_Switch_init_c0 (i : Nat) : decode (jm_cod M_Switch_init) (tab_Switch_init_c0.getD i (0, .aload_n 0, 1)).1 = .ok ((tab_Switch_init_c0.getD i (0, .aload_n 0, 1)).2.1, (tab_Switch_init_c0.getD i (0, .aload_n 0, 1)).2.2) := j_tab (by decide +kernel) i
theorem d_Switch_init_0 : decode (jm_cod M_Switch_init) 0 = .ok (.aload_n 0, 1) := dt_Switch_init_c0 0
theorem d_Switch_init_1 : decode (jm_cod M_Switch_init) 1 = .ok (.invokespecial 3, 3) := dt_Switch_init_c0 1
theorem d_Switch_init_4 : decode (jm_cod M_Switch_init) 4 = .ok (.aload_n 0, 1) := dt_Switch_init_c0 2
theorem d_Switch_init_5 : decode (jm_cod M_Switch_init) 5 = .ok (.bipush 16, 2) := dt_Switch_init_c0 3
theorem d_Switch_init_7 : decode (jm_cod M_Switch_init) 7 = .ok (.newarray .int, 2) := dt_Switch_init_c0 4
theorem d_Switch_init_9 : decode (jm_cod M_Switch_init) 9 = .ok (.putfield 9, 3) := dt_Switch_init_c0 5
theorem d_Switch_init_12 : decode (jm_cod M_Switch_init) 12 = .ok (.aload_n 0, 1) := dt_Switch_init_c0 6
theorem d_Switch_init_13 : decode (jm_cod M_Switch_init) 13 = .ok (.iload_n 1, 1) := dt_Switch_init_c0 7
theorem d_Switch_init_14 : decode (jm_cod M_Switch_init) 14 = .ok (.putfield 15, 3) := dt_Switch_init_c0 8
theorem d_Switch_init_17 : decode (jm_cod M_Switch_init) 17 = .ok (.aload_n 0, 1) := dt_Switch_init_c0 9
theorem d_Switch_init_18 : decode (jm_cod M_Switch_init) 18 = .ok (.iload_n 2, 1) := dt_Switch_init_c0 10
theorem d_Switch_init_19 : decode (jm_cod M_Switch_init) 19 = .ok (.putfield 19, 3) := dt_Switch_init_c0 11
theorem d_Switch_init_22 : decode (jm_cod M_Switch_init) 22 = .ok (.aload_n 0, 1) := dt_Switch_init_c0 12
theorem d_Switch_init_23 : decode (jm_cod M_Switch_init) 23 = .ok (.iload_n 3, 1) := dt_Switch_init_c0 13
theorem d_Switch_init_24 : decode (jm_cod M_Switch_init) 24 = .ok (.putfield 22, 3) := dt_Switch_init_c0 14
theorem d_Switch_init_27 : decode (jm_cod M_Switch_init) 27 = .ok (.aload_n 0, 1) := dt_Switch_init_c0 15
theorem d_Switch_init_28 : decode (jm_cod M_Switch_init) 28 = .ok (.iload_n 1, 1) := dt_Switch_init_c0 16
theorem d_Switch_init_29 : decode (jm_cod M_Switch_init) 29 = .ok (.invokestatic 25, 3) := dt_Switch_init_c0 17
theorem d_Switch_init_32 : decode (jm_cod M_Switch_init) 32 = .ok (.putfield 29, 3) := dt_Switch_init_c0 18
theorem d_Switch_init_35 : decode (jm_cod M_Switch_init) 35 = .ok (.aload_n 0, 1) := dt_Switch_init_c0 19
theorem d_Switch_init_36 : decode (jm_cod M_Switch_init) 36 = .ok (.iload_n 2, 1) := dt_Switch_init_c0 20
theorem d_Switch_init_37 : decode (jm_cod M_Switch_init) 37 = .ok (.iconst 1, 1) := dt_Switch_init_c0 21
theorem d_Switch_init_38 : decode (jm_cod M_Switch_init) 38 = .ok (.iadd, 1) := dt_Switch_init_c0 22
theorem d_Switch_init_39 : decode (jm_cod M_Switch_init) 39 = .ok (.invokestatic 25, 3) := dt_Switch_init_c0 23
def tab_Switch_init_c1 : List (Nat × Instr × Nat) := [(42, .putfield 33, 3), (45, .aload_n 0, 1), (46, .iload_n 1, 1), (47, .anewarray 36, 3), (50, .putfield 38, 3), (53, .aload_n 0, 1), (54, .iload_n 1, 1), (55, .anewarray 36, 3), (58, .putfield 42, 3), (61, .iconst 0, 1), (62, .istore 4, 2), (64, .iload 4, 2), (66, .iload_n 1, 1), (67, .if_icmp .ge 37, 3), (70, .aload_n 0, 1), (71, .getfield 38, 3), (74, .iload 4, 2), (76, .new 36, 3), (79, .dup, 1), (80, .invokespecial 45, 3), (83, .aastore, 1), (84, .aload_n 0, 1), (85, .getfield 42, 3), (88, .iload 4, 2)]
theorem dt_Switch_init_c1 (i : Nat) : decode (jm_cod M_Switch_init) (tab_Switch_init_c1.getD i (42, .putfield 33, 3)).1 = .ok ((tab_Switch_init_c1.getD i (42, .putfield 33, 3)).2.1, (tab_Switch_init_c1.getD i (42, .putfield 33, 3)).2.2) := j_tab (by decide +kernel) i
theorem d_Switch_init_42 : decode (jm_cod M_Switch_init) 42 = .ok (.putfield 33, 3) := dt_Switch_init_c1 0
theorem d_Switch_init_45 : decode (jm_cod M_Switch_init) 45 = .ok (.aload_n 0, 1) := dt_Switch_init_c1 1
theorem d_Switch_init_46 : decode (jm_cod M_Switch_init) 46 = .ok (.iload_n 1, 1) := dt_Switch_init_c1 2
theorem d_Switch_init_47 : decode (jm_cod M_Switch_init) 47 = .ok (.anewarray 36, 3) := dt_Switch_init_c1 3
theorem d_Switch_init_50 : decode (jm_cod M_Switch_init) 50 = .ok (.putfield 38, 3) := dt_Switch_init_c1 4
theorem d_Switch_init_53 : decode (jm_cod M_Switch_init) 53 = .ok (.aload_n 0, 1) := dt_Switch_init_c1 5
theorem d_Switch_init_54 : decode (jm_cod M_Switch_init) 54 = .ok (.iload_n 1, 1) := dt_Switch_init_c1 6
theorem d_Switch_init_55 : decode (jm_cod M_Switch_init) 55 = .ok (.anewarray 36, 3) := dt_Switch_init_c1 7
theorem d_Switch_init_58 : decode (jm_cod M_Switch_init) 58 = .ok (.putfield 42, 3) := dt_Switch_init_c1 8
theorem d_Switch_init_61 : decode (jm_cod M_Switch_init) 61 = .ok (.iconst 0, 1) := dt_Switch_init_c1 9
theorem d_Switch_init_62 : decode (jm_cod M_Switch_init) 62 = .ok (.istore 4, 2) := dt_Switch_init_c1 10
theorem d_Switch_init_64 : decode (jm_cod M_Switch_init) 64 = .ok (.iload 4, 2) := dt_Switch_init_c1 11
theorem d_Switch_init_66 : decode (jm_cod M_Switch_init) 66 = .ok (.iload_n 1, 1) := dt_Switch_init_c1 12
theorem d_Switch_init_67 : decode (jm_cod M_Switch_init) 67 = .ok (.if_icmp .ge 37, 3) := dt_Switch_init_c1 13
theorem d_Switch_init_70 : decode (jm_cod M_Switch_init) 70 = .ok (.aload_n 0, 1) := dt_Switch_init_c1 14
theorem d_Switch_init_71 : decode (jm_cod M_Switch_init) 71 = .ok (.getfield 38, 3) := dt_Switch_init_c1 15
theorem d_Switch_init_74 : decode (jm_cod M_Switch_init) 74 = .ok (.iload 4, 2) := dt_Switch_init_c1 16
theorem d_Switch_init_76 : decode (jm_cod M_Switch_init) 76 = .ok (.new 36, 3) := dt_Switch_init_c1 17
theorem d_Switch_init_79 : decode (jm_cod M_Switch_init) 79 = .ok (.dup, 1) := dt_Switch_init_c1 18
theorem d_Switch_init_80 : decode (jm_cod M_Switch_init) 80 = .ok (.invokespecial 45, 3) := dt_Switch_init_c1 19
theorem d_Switch_init_83 : decode (jm_cod M_Switch_init) 83 = .ok (.aastore, 1) := dt_Switch_init_c1 20
theorem d_Switch_init_84 : decode (jm_cod M_Switch_init) 84 = .ok (.aload_n 0, 1) := dt_Switch_init_c1 21
theorem d_Switch_init_85 : decode (jm_cod M_Switch_init) 85 = .ok (.getfield 42, 3) := dt_Switch_init_c1 22
theorem d_Switch_init_88 : decode (jm_cod M_Switch_init) 88 = .ok (.iload 4, 2) := dt_Switch_init_c1 23
def tab_Switch_init_c2 : List (Nat × Instr × Nat) := [(90, .new 36, 3), (93, .dup, 1), (94, .invokespecial 45, 3), (97, .aastore, 1), (98, .iinc 4 1, 3), (101, .goto (-37), 3), (104, .aload_n 0, 1), (105, .iload_n 2, 1), (106, .iconst 1, 1), (107, .iadd, 1), (108, .newarray .int, 2), (110, .putfield 46, 3), (113, .aload_n 0, 1), (114, .iload_n 2, 1), (115, .iconst 1, 1), (116, .iadd, 1), (117, .newarray .int, 2), (119, .putfield 49, 3), (122, .aload_n 0, 1), (123, .iload_n 1, 1), (124, .newarray .int, 2), (126, .putfield 52, 3), (129, .aload_n 0, 1), (130, .iload_n 1, 1)]
theorem dt_Switch_init_c2 (i : Nat) : decode (jm_cod M_Switch_init) (tab_Switch_init_c2.getD i (90, .new 36, 3)).1 = .ok ((tab_Switch_init_c2.getD i (90, .new 36, 3)).2.1, (tab_Switch_init_c2.getD i (90, .new 36, 3)).2.2) := j_tab (by decide +kernel) i
theorem d_Switch_init_90 : decode (jm_cod M_Switch_init) 90 = .ok (.new 36, 3) := dt_Switch_init_c2 0
theorem d_Switch_init_93 : decode (jm_cod M_Switch_init) 93 = .ok (.dup, 1) := dt_Switch_init_c2 1
theorem d_Switch_init_94 : decode (jm_cod M_Switch_init) 94 = .ok (.invokespecial 45, 3) := dt_Switch_init_c2 2
theorem d_Switch_init_97 : decode (jm_cod M_Switch_init) 97 = .ok (.aastore, 1) := dt_Switch_init_c2 3
theorem d_Switch_init_98 : decode (jm_cod M_Switch_init) 98 = .ok (.iinc 4 1, 3) := dt_Switch_init_c2 4
theorem d_Switch_init_101 : decode (jm_cod M_Switch_init) 101 = .ok (.goto (-37), 3) := dt_Switch_init_c2 5
theorem d_Switch_init_104 : decode (jm_cod M_Switch_init) 104 = .ok (.aload_n 0, 1) := dt_Switch_init_c2 6
theorem d_Switch_init_105 : decode (jm_cod M_Switch_init) 105 = .ok (.iload_n 2, 1) := dt_Switch_init_c2 7
theorem d_Switch_init_106 : decode (jm_cod M_Switch_init) 106 = .ok (.iconst 1, 1) := dt_Switch_init_c2 8
theorem d_Switch_init_107 : decode (jm_cod M_Switch_init) 107 = .ok (.iadd, 1) := dt_Switch_init_c2 9
theorem d_Switch_init_108 : decode (jm_cod M_Switch_init) 108 = .ok (.newarray .int, 2) := dt_Switch_init_c2 10
theorem d_Switch_init_110 : decode (jm_cod M_Switch_init) 110 = .ok (.putfield 46, 3) := dt_Switch_init_c2 11
theorem d_Switch_init_113 : decode (jm_cod M_Switch_init) 113 = .ok (.aload_n 0, 1) := dt_Switch_init_c2 12
theorem d_Switch_init_114 : decode (jm_cod M_Switch_init) 114 = .ok (.iload_n 2, 1) := dt_Switch_init_c2 13
theorem d_Switch_init_115 : decode (jm_cod M_Switch_init) 115 = .ok (.iconst 1, 1) := dt_Switch_init_c2 14
theorem d_Switch_init_116 : decode (jm_cod M_Switch_init) 116 = .ok (.iadd, 1) := dt_Switch_init_c2 15
theorem d_Switch_init_117 : decode (jm_cod M_Switch_init) 117 = .ok (.newarray .int, 2) := dt_Switch_init_c2 16
theorem d_Switch_init_119 : decode (jm_cod M_Switch_init) 119 = .ok (.putfield 49, 3) := dt_Switch_init_c2 17
theorem d_Switch_init_122 : decode (jm_cod M_Switch_init) 122 = .ok (.aload_n 0, 1) := dt_Switch_init_c2 18
theorem d_Switch_init_123 : decode (jm_cod M_Switch_init) 123 = .ok (.iload_n 1, 1) := dt_Switch_init_c2 19
theorem d_Switch_init_124 : decode (jm_cod M_Switch_init) 124 = .ok (.newarray .int, 2) := dt_Switch_init_c2 20
theorem d_Switch_init_126 : decode (jm_cod M_Switch_init) 126 = .ok (.putfield 52, 3) := dt_Switch_init_c2 21
theorem d_Switch_init_129 : decode (jm_cod M_Switch_init) 129 = .ok (.aload_n 0, 1) := dt_Switch_init_c2 22
theorem d_Switch_init_130 : decode (jm_cod M_Switch_init) 130 = .ok (.iload_n 1, 1) := dt_Switch_init_c2 23
def tab_Switch_init_c3 : List (Nat × Instr × Nat) := [(131, .newarray .int, 2), (133, .putfield 55, 3), (136, .aload_n 0, 1), (137, .iload_n 1, 1), (138, .newarray .boolean, 2), (140, .putfield 58, 3), (143, .aload_n 0, 1), (144, .invokevirtual 62, 3), (147, .return_, 1)]
theorem dt_Switch_init_c3 (i : Nat) : decode (jm_cod M_Switch_init) (tab_Switch_init_c3.getD i (131, .newarray .int, 2)).1 = .ok ((tab_Switch_init_c3.getD i (131, .newarray .int, 2)).2.1, (tab_Switch_init_c3.getD i (131, .newarray .int, 2)).2.2) := j_tab (by decide +kernel) i
theorem d_Switch_init_131 : decode (jm_cod M_Switch_init) 131 = .ok (.newarray .int, 2) := dt_Switch_init_c3 0
theorem d_Switch_init_133 : decode (jm_cod M_Switch_init) 133 = .ok (.putfield 55, 3) := dt_Switch_init_c3 1
theorem d_Switch_init_136 : decode (jm_cod M_Switch_init) 136 = .ok (.aload_n 0, 1) := dt_Switch_init_c3 2
theorem d_Switch_init_137 : decode (jm_cod M_Switch_init) 137 = .ok (.iload_n 1, 1) := dt_Switch_init_c3 3
theorem d_Switch_init_138 : decode (jm_cod M_Switch_init) 138 = .ok (.newarray .boolean, 2) := dt_Switch_init_c3 4
theorem d_Switch_init_140 : decode (jm_cod M_Switch_init) 140 = .ok (.putfield 58, 3) := dt_Switch_init_c3 5
theorem d_Switch_init_143 : decode (jm_cod M_Switch_init) 143 = .ok (.aload_n 0, 1) := dt_Switch_init_c3 6
theorem d_Switch_init_144 : decode (jm_cod M_Switch_init) 144 = .ok (.invokevirtual 62, 3) := dt_Switch_init_c3 7
theorem d_Switch_init_147 : decode (jm_cod M_Switch_init) 147 = .ok (.return_, 1) := dt_Switch_init_c3 8
def tab_Switch_rowsFor_c0 : List (Nat × Instr × Nat) := [(0, .iload_n 0, 1), (1, .iconst 5, 1), (2, .imul, 1), (3, .anewarray 65, 3), (6, .astore_n 1, 1), (7, .iconst 0, 1), (8, .istore_n 2, 1), (9, .iload_n 2, 1), (10, .aload_n 1, 1), (11, .arraylength, 1), (12, .if_icmp .ge 38, 3), (15, .iload_n 2, 1), (16, .iconst 5, 1), (17, .irem, 1), (18, .istore_n 3, 1), (19, .aload_n 1, 1), (20, .iload_n 2, 1), (21, .new 65, 3), (24, .dup, 1), (25, .iload_n 3, 1), (26, .iconst 1, 1), (27, .if_icmp .eq 8, 3), (30, .iload_n 3, 1), (31, .iconst 4, 1)]
theorem dt_Switch_rowsFor_c0 (i : Nat) : decode (jm_cod M_Switch_rowsFor) (tab_Switch_rowsFor_c0.getD i (0, .iload_n 0, 1)).1 = .ok ((tab_Switch_rowsFor_c0.getD i (0, .iload_n 0, 1)).2.1, (tab_Switch_rowsFor_c0.getD i (0, .iload_n 0, 1)).2.2) := j_tab (by decide +kernel) i
theorem d_Switch_rowsFor_0 : decode (jm_cod M_Switch_rowsFor) 0 = .ok (.iload_n 0, 1) := dt_Switch_rowsFor_c0 0
theorem d_Switch_rowsFor_1 : decode (jm_cod M_Switch_rowsFor) 1 = .ok (.iconst 5, 1) := dt_Switch_rowsFor_c0 1
theorem d_Switch_rowsFor_2 : decode (jm_cod M_Switch_rowsFor) 2 = .ok (.imul, 1) := dt_Switch_rowsFor_c0 2
theorem d_Switch_rowsFor_3 : decode (jm_cod M_Switch_rowsFor) 3 = .ok (.anewarray 65, 3) := dt_Switch_rowsFor_c0 3
theorem d_Switch_rowsFor_6 : decode (jm_cod M_Switch_rowsFor) 6 = .ok (.astore_n 1, 1) := dt_Switch_rowsFor_c0 4
theorem d_Switch_rowsFor_7 : decode (jm_cod M_Switch_rowsFor) 7 = .ok (.iconst 0, 1) := dt_Switch_rowsFor_c0 5
theorem d_Switch_rowsFor_8 : decode (jm_cod M_Switch_rowsFor) 8 = .ok (.istore_n 2, 1) := dt_Switch_rowsFor_c0 6
theorem d_Switch_rowsFor_9 : decode (jm_cod M_Switch_rowsFor) 9 = .ok (.iload_n 2, 1) := dt_Switch_rowsFor_c0 7
theorem d_Switch_rowsFor_10 : decode (jm_cod M_Switch_rowsFor) 10 = .ok (.aload_n 1, 1) := dt_Switch_rowsFor_c0 8
theorem d_Switch_rowsFor_11 : decode (jm_cod M_Switch_rowsFor) 11 = .ok (.arraylength, 1) := dt_Switch_rowsFor_c0 9
theorem d_Switch_rowsFor_12 : decode (jm_cod M_Switch_rowsFor) 12 = .ok (.if_icmp .ge 38, 3) := dt_Switch_rowsFor_c0 10
theorem d_Switch_rowsFor_15 : decode (jm_cod M_Switch_rowsFor) 15 = .ok (.iload_n 2, 1) := dt_Switch_rowsFor_c0 11
theorem d_Switch_rowsFor_16 : decode (jm_cod M_Switch_rowsFor) 16 = .ok (.iconst 5, 1) := dt_Switch_rowsFor_c0 12
theorem d_Switch_rowsFor_17 : decode (jm_cod M_Switch_rowsFor) 17 = .ok (.irem, 1) := dt_Switch_rowsFor_c0 13
theorem d_Switch_rowsFor_18 : decode (jm_cod M_Switch_rowsFor) 18 = .ok (.istore_n 3, 1) := dt_Switch_rowsFor_c0 14
theorem d_Switch_rowsFor_19 : decode (jm_cod M_Switch_rowsFor) 19 = .ok (.aload_n 1, 1) := dt_Switch_rowsFor_c0 15
theorem d_Switch_rowsFor_20 : decode (jm_cod M_Switch_rowsFor) 20 = .ok (.iload_n 2, 1) := dt_Switch_rowsFor_c0 16
theorem d_Switch_rowsFor_21 : decode (jm_cod M_Switch_rowsFor) 21 = .ok (.new 65, 3) := dt_Switch_rowsFor_c0 17
theorem d_Switch_rowsFor_24 : decode (jm_cod M_Switch_rowsFor) 24 = .ok (.dup, 1) := dt_Switch_rowsFor_c0 18
theorem d_Switch_rowsFor_25 : decode (jm_cod M_Switch_rowsFor) 25 = .ok (.iload_n 3, 1) := dt_Switch_rowsFor_c0 19
theorem d_Switch_rowsFor_26 : decode (jm_cod M_Switch_rowsFor) 26 = .ok (.iconst 1, 1) := dt_Switch_rowsFor_c0 20
theorem d_Switch_rowsFor_27 : decode (jm_cod M_Switch_rowsFor) 27 = .ok (.if_icmp .eq 8, 3) := dt_Switch_rowsFor_c0 21
theorem d_Switch_rowsFor_30 : decode (jm_cod M_Switch_rowsFor) 30 = .ok (.iload_n 3, 1) := dt_Switch_rowsFor_c0 22
theorem d_Switch_rowsFor_31 : decode (jm_cod M_Switch_rowsFor) 31 = .ok (.iconst 4, 1) := dt_Switch_rowsFor_c0 23
def tab_Switch_rowsFor_c1 : List (Nat × Instr × Nat) := [(32, .if_icmp .ne 7, 3), (35, .iconst 4, 1), (36, .goto 4, 3), (39, .iconst 2, 1), (40, .invokespecial 67, 3), (43, .aastore, 1), (44, .iinc 2 1, 3), (47, .goto (-38), 3), (50, .aload_n 1, 1), (51, .areturn, 1)]
theorem dt_Switch_rowsFor_c1 (i : Nat) : decode (jm_cod M_Switch_rowsFor) (tab_Switch_rowsFor_c1.getD i (32, .if_icmp .ne 7, 3)).1 = .ok ((tab_Switch_rowsFor_c1.getD i (32, .if_icmp .ne 7, 3)).2.1, (tab_Switch_rowsFor_c1.getD i (32, .if_icmp .ne 7, 3)).2.2) := j_tab (by decide +kernel) i
theorem d_Switch_rowsFor_32 : decode (jm_cod M_Switch_rowsFor) 32 = .ok (.if_icmp .ne 7, 3) := dt_Switch_rowsFor_c1 0
theorem d_Switch_rowsFor_35 : decode (jm_cod M_Switch_rowsFor) 35 = .ok (.iconst 4, 1) := dt_Switch_rowsFor_c1 1
theorem d_Switch_rowsFor_36 : decode (jm_cod M_Switch_rowsFor) 36 = .ok (.goto 4, 3) := dt_Switch_rowsFor_c1 2
theorem d_Switch_rowsFor_39 : decode (jm_cod M_Switch_rowsFor) 39 = .ok (.iconst 2, 1) := dt_Switch_rowsFor_c1 3
theorem d_Switch_rowsFor_40 : decode (jm_cod M_Switch_rowsFor) 40 = .ok (.invokespecial 67, 3) := dt_Switch_rowsFor_c1 4
theorem d_Switch_rowsFor_43 : decode (jm_cod M_Switch_rowsFor) 43 = .ok (.aastore, 1) := dt_Switch_rowsFor_c1 5
theorem d_Switch_rowsFor_44 : decode (jm_cod M_Switch_rowsFor) 44 = .ok (.iinc 2 1, 3) := dt_Switch_rowsFor_c1 6
theorem d_Switch_rowsFor_47 : decode (jm_cod M_Switch_rowsFor) 47 = .ok (.goto (-38), 3) := dt_Switch_rowsFor_c1 7
theorem d_Switch_rowsFor_50 : decode (jm_cod M_Switch_rowsFor) 50 = .ok (.aload_n 1, 1) := dt_Switch_rowsFor_c1 8
theorem d_Switch_rowsFor_51 : decode (jm_cod M_Switch_rowsFor) 51 = .ok (.areturn, 1) := dt_Switch_rowsFor_c1 9
def tab_Switch_reset_c0 : List (Nat × Instr × Nat) := [(0, .iconst 0, 1), (1, .istore_n 1, 1), (2, .iload_n 1, 1), (3, .bipush 16, 2), (5, .if_icmp .ge 21, 3), (8, .aload_n 0, 1), (9, .getfield 9, 3), (12, .iload_n 1, 1), (13, .iload_n 1, 1), (14, .aload_n 0, 1), (15, .getfield 19, 3), (18, .irem, 1), (19, .iastore, 1), (20, .iinc 1 1, 3), (23, .goto (-21), 3), (26, .iconst 0, 1), (27, .istore_n 1, 1), (28, .iload_n 1, 1), (29, .aload_n 0, 1), (30, .getfield 29, 3), (33, .arraylength, 1), (34, .if_icmp .ge 19, 3), (37, .aload_n 0, 1), (38, .getfield 29, 3)]
theorem dt_Switch_reset_c0 (i : Nat) : decode (jm_cod M_Switch_reset) (tab_Switch_reset_c0.getD i (0, .iconst 0, 1)).1 = .ok ((tab_Switch_reset_c0.getD i (0, .iconst 0, 1)).2.1, (tab_Switch_reset_c0.getD i (0, .iconst 0, 1)).2.2) := j_tab (by decide +kernel) i
theorem d_Switch_reset_0 : decode (jm_cod M_Switch_reset) 0 = .ok (.iconst 0, 1) := dt_Switch_reset_c0 0
theorem d_Switch_reset_1 : decode (jm_cod M_Switch_reset) 1 = .ok (.istore_n 1, 1) := dt_Switch_reset_c0 1
theorem d_Switch_reset_2 : decode (jm_cod M_Switch_reset) 2 = .ok (.iload_n 1, 1) := dt_Switch_reset_c0 2
theorem d_Switch_reset_3 : decode (jm_cod M_Switch_reset) 3 = .ok (.bipush 16, 2) := dt_Switch_reset_c0 3
theorem d_Switch_reset_5 : decode (jm_cod M_Switch_reset) 5 = .ok (.if_icmp .ge 21, 3) := dt_Switch_reset_c0 4
theorem d_Switch_reset_8 : decode (jm_cod M_Switch_reset) 8 = .ok (.aload_n 0, 1) := dt_Switch_reset_c0 5
theorem d_Switch_reset_9 : decode (jm_cod M_Switch_reset) 9 = .ok (.getfield 9, 3) := dt_Switch_reset_c0 6
theorem d_Switch_reset_12 : decode (jm_cod M_Switch_reset) 12 = .ok (.iload_n 1, 1) := dt_Switch_reset_c0 7
theorem d_Switch_reset_13 : decode (jm_cod M_Switch_reset) 13 = .ok (.iload_n 1, 1) := dt_Switch_reset_c0 8
theorem d_Switch_reset_14 : decode (jm_cod M_Switch_reset) 14 = .ok (.aload_n 0, 1) := dt_Switch_reset_c0 9
theorem d_Switch_reset_15 : decode (jm_cod M_Switch_reset) 15 = .ok (.getfield 19, 3) := dt_Switch_reset_c0 10
theorem d_Switch_reset_18 : decode (jm_cod M_Switch_reset) 18 = .ok (.irem, 1) := dt_Switch_reset_c0 11
theorem d_Switch_reset_19 : decode (jm_cod M_Switch_reset) 19 = .ok (.iastore, 1) := dt_Switch_reset_c0 12
theorem d_Switch_reset_20 : decode (jm_cod M_Switch_reset) 20 = .ok (.iinc 1 1, 3) := dt_Switch_reset_c0 13
theorem d_Switch_reset_23 : decode (jm_cod M_Switch_reset) 23 = .ok (.goto (-21), 3) := dt_Switch_reset_c0 14
theorem d_Switch_reset_26 : decode (jm_cod M_Switch_reset) 26 = .ok (.iconst 0, 1) := dt_Switch_reset_c0 15
theorem d_Switch_reset_27 : decode (jm_cod M_Switch_reset) 27 = .ok (.istore_n 1, 1) := dt_Switch_reset_c0 16
theorem d_Switch_reset_28 : decode (jm_cod M_Switch_reset) 28 = .ok (.iload_n 1, 1) := dt_Switch_reset_c0 17
theorem d_Switch_reset_29 : decode (jm_cod M_Switch_reset) 29 = .ok (.aload_n 0, 1) := dt_Switch_reset_c0 18
theorem d_Switch_reset_30 : decode (jm_cod M_Switch_reset) 30 = .ok (.getfield 29, 3) := dt_Switch_reset_c0 19
theorem d_Switch_reset_33 : decode (jm_cod M_Switch_reset) 33 = .ok (.arraylength, 1) := dt_Switch_reset_c0 20
theorem d_Switch_reset_34 : decode (jm_cod M_Switch_reset) 34 = .ok (.if_icmp .ge 19, 3) := dt_Switch_reset_c0 21
theorem d_Switch_reset_37 : decode (jm_cod M_Switch_reset) 37 = .ok (.aload_n 0, 1) := dt_Switch_reset_c0 22
theorem d_Switch_reset_38 : decode (jm_cod M_Switch_reset) 38 = .ok (.getfield 29, 3) := dt_Switch_reset_c0 23
def tab_Switch_reset_c1 : List (Nat × Instr × Nat) := [(41, .iload_n 1, 1), (42, .aaload, 1), (43, .iconst 0, 1), (44, .putfield 70, 3), (47, .iinc 1 1, 3), (50, .goto (-22), 3), (53, .iconst 0, 1), (54, .istore_n 1, 1), (55, .iload_n 1, 1), (56, .aload_n 0, 1), (57, .getfield 33, 3), (60, .arraylength, 1), (61, .if_icmp .ge 19, 3), (64, .aload_n 0, 1), (65, .getfield 33, 3), (68, .iload_n 1, 1), (69, .aaload, 1), (70, .iconst 0, 1), (71, .putfield 70, 3), (74, .iinc 1 1, 3), (77, .goto (-22), 3), (80, .iconst 0, 1), (81, .istore_n 1, 1), (82, .iload_n 1, 1)]
theorem dt_Switch_reset_c1 (i : Nat) : decode (jm_cod M_Switch_reset) (tab_Switch_reset_c1.getD i (41, .iload_n 1, 1)).1 = .ok ((tab_Switch_reset_c1.getD i (41, .iload_n 1, 1)).2.1, (tab_Switch_reset_c1.getD i (41, .iload_n 1, 1)).2.2) := j_tab (by decide +kernel) i
theorem d_Switch_reset_41 : decode (jm_cod M_Switch_reset) 41 = .ok (.iload_n 1, 1) := dt_Switch_reset_c1 0
theorem d_Switch_reset_42 : decode (jm_cod M_Switch_reset) 42 = .ok (.aaload, 1) := dt_Switch_reset_c1 1
theorem d_Switch_reset_43 : decode (jm_cod M_Switch_reset) 43 = .ok (.iconst 0, 1) := dt_Switch_reset_c1 2
theorem d_Switch_reset_44 : decode (jm_cod M_Switch_reset) 44 = .ok (.putfield 70, 3) := dt_Switch_reset_c1 3
theorem d_Switch_reset_47 : decode (jm_cod M_Switch_reset) 47 = .ok (.iinc 1 1, 3) := dt_Switch_reset_c1 4
theorem d_Switch_reset_50 : decode (jm_cod M_Switch_reset) 50 = .ok (.goto (-22), 3) := dt_Switch_reset_c1 5
theorem d_Switch_reset_53 : decode (jm_cod M_Switch_reset) 53 = .ok (.iconst 0, 1) := dt_Switch_reset_c1 6
theorem d_Switch_reset_54 : decode (jm_cod M_Switch_reset) 54 = .ok (.istore_n 1, 1) := dt_Switch_reset_c1 7
theorem d_Switch_reset_55 : decode (jm_cod M_Switch_reset) 55 = .ok (.iload_n 1, 1) := dt_Switch_reset_c1 8
theorem d_Switch_reset_56 : decode (jm_cod M_Switch_reset) 56 = .ok (.aload_n 0, 1) := dt_Switch_reset_c1 9
theorem d_Switch_reset_57 : decode (jm_cod M_Switch_reset) 57 = .ok (.getfield 33, 3) := dt_Switch_reset_c1 10
theorem d_Switch_reset_60 : decode (jm_cod M_Switch_reset) 60 = .ok (.arraylength, 1) := dt_Switch_reset_c1 11
theorem d_Switch_reset_61 : decode (jm_cod M_Switch_reset) 61 = .ok (.if_icmp .ge 19, 3) := dt_Switch_reset_c1 12
theorem d_Switch_reset_64 : decode (jm_cod M_Switch_reset) 64 = .ok (.aload_n 0, 1) := dt_Switch_reset_c1 13
theorem d_Switch_reset_65 : decode (jm_cod M_Switch_reset) 65 = .ok (.getfield 33, 3) := dt_Switch_reset_c1 14
theorem d_Switch_reset_68 : decode (jm_cod M_Switch_reset) 68 = .ok (.iload_n 1, 1) := dt_Switch_reset_c1 15
theorem d_Switch_reset_69 : decode (jm_cod M_Switch_reset) 69 = .ok (.aaload, 1) := dt_Switch_reset_c1 16
theorem d_Switch_reset_70 : decode (jm_cod M_Switch_reset) 70 = .ok (.iconst 0, 1) := dt_Switch_reset_c1 17
theorem d_Switch_reset_71 : decode (jm_cod M_Switch_reset) 71 = .ok (.putfield 70, 3) := dt_Switch_reset_c1 18
theorem d_Switch_reset_74 : decode (jm_cod M_Switch_reset) 74 = .ok (.iinc 1 1, 3) := dt_Switch_reset_c1 19
theorem d_Switch_reset_77 : decode (jm_cod M_Switch_reset) 77 = .ok (.goto (-22), 3) := dt_Switch_reset_c1 20
theorem d_Switch_reset_80 : decode (jm_cod M_Switch_reset) 80 = .ok (.iconst 0, 1) := dt_Switch_reset_c1 21
theorem d_Switch_reset_81 : decode (jm_cod M_Switch_reset) 81 = .ok (.istore_n 1, 1) := dt_Switch_reset_c1 22
theorem d_Switch_reset_82 : decode (jm_cod M_Switch_reset) 82 = .ok (.iload_n 1, 1) := dt_Switch_reset_c1 23
def tab_Switch_reset_c2 : List (Nat × Instr × Nat) := [(83, .aload_n 0, 1), (84, .getfield 15, 3), (87, .if_icmp .ge 36, 3), (90, .aload_n 0, 1), (91, .getfield 38, 3), (94, .iload_n 1, 1), (95, .aaload, 1), (96, .iconst 0, 1), (97, .putfield 73, 3), (100, .aload_n 0, 1), (101, .getfield 42, 3), (104, .iload_n 1, 1), (105, .aaload, 1), (106, .iconst 0, 1), (107, .putfield 73, 3), (110, .aload_n 0, 1), (111, .getfield 58, 3), (114, .iload_n 1, 1), (115, .iconst 0, 1), (116, .bastore, 1), (117, .iinc 1 1, 3), (120, .goto (-38), 3), (123, .aload_n 0, 1), (124, .getfield 46, 3)]
theorem dt_Switch_reset_c2 (i : Nat) : decode (jm_cod M_Switch_reset) (tab_Switch_reset_c2.getD i (83, .aload_n 0, 1)).1 = .ok ((tab_Switch_reset_c2.getD i (83, .aload_n 0, 1)).2.1, (tab_Switch_reset_c2.getD i (83, .aload_n 0, 1)).2.2) := j_tab (by decide +kernel) i
theorem d_Switch_reset_83 : decode (jm_cod M_Switch_reset) 83 = .ok (.aload_n 0, 1) := dt_Switch_reset_c2 0
theorem d_Switch_reset_84 : decode (jm_cod M_Switch_reset) 84 = .ok (.getfield 15, 3) := dt_Switch_reset_c2 1
theorem d_Switch_reset_87 : decode (jm_cod M_Switch_reset) 87 = .ok (.if_icmp .ge 36, 3) := dt_Switch_reset_c2 2
theorem d_Switch_reset_90 : decode (jm_cod M_Switch_reset) 90 = .ok (.aload_n 0, 1) := dt_Switch_reset_c2 3
theorem d_Switch_reset_91 : decode (jm_cod M_Switch_reset) 91 = .ok (.getfield 38, 3) := dt_Switch_reset_c2 4
theorem d_Switch_reset_94 : decode (jm_cod M_Switch_reset) 94 = .ok (.iload_n 1, 1) := dt_Switch_reset_c2 5
theorem d_Switch_reset_95 : decode (jm_cod M_Switch_reset) 95 = .ok (.aaload, 1) := dt_Switch_reset_c2 6
theorem d_Switch_reset_96 : decode (jm_cod M_Switch_reset) 96 = .ok (.iconst 0, 1) := dt_Switch_reset_c2 7
theorem d_Switch_reset_97 : decode (jm_cod M_Switch_reset) 97 = .ok (.putfield 73, 3) := dt_Switch_reset_c2 8
theorem d_Switch_reset_100 : decode (jm_cod M_Switch_reset) 100 = .ok (.aload_n 0, 1) := dt_Switch_reset_c2 9
theorem d_Switch_reset_101 : decode (jm_cod M_Switch_reset) 101 = .ok (.getfield 42, 3) := dt_Switch_reset_c2 10
theorem d_Switch_reset_104 : decode (jm_cod M_Switch_reset) 104 = .ok (.iload_n 1, 1) := dt_Switch_reset_c2 11
theorem d_Switch_reset_105 : decode (jm_cod M_Switch_reset) 105 = .ok (.aaload, 1) := dt_Switch_reset_c2 12
theorem d_Switch_reset_106 : decode (jm_cod M_Switch_reset) 106 = .ok (.iconst 0, 1) := dt_Switch_reset_c2 13
theorem d_Switch_reset_107 : decode (jm_cod M_Switch_reset) 107 = .ok (.putfield 73, 3) := dt_Switch_reset_c2 14
theorem d_Switch_reset_110 : decode (jm_cod M_Switch_reset) 110 = .ok (.aload_n 0, 1) := dt_Switch_reset_c2 15
theorem d_Switch_reset_111 : decode (jm_cod M_Switch_reset) 111 = .ok (.getfield 58, 3) := dt_Switch_reset_c2 16
theorem d_Switch_reset_114 : decode (jm_cod M_Switch_reset) 114 = .ok (.iload_n 1, 1) := dt_Switch_reset_c2 17
theorem d_Switch_reset_115 : decode (jm_cod M_Switch_reset) 115 = .ok (.iconst 0, 1) := dt_Switch_reset_c2 18
theorem d_Switch_reset_116 : decode (jm_cod M_Switch_reset) 116 = .ok (.bastore, 1) := dt_Switch_reset_c2 19
theorem d_Switch_reset_117 : decode (jm_cod M_Switch_reset) 117 = .ok (.iinc 1 1, 3) := dt_Switch_reset_c2 20
theorem d_Switch_reset_120 : decode (jm_cod M_Switch_reset) 120 = .ok (.goto (-38), 3) := dt_Switch_reset_c2 21
theorem d_Switch_reset_123 : decode (jm_cod M_Switch_reset) 123 = .ok (.aload_n 0, 1) := dt_Switch_reset_c2 22
theorem d_Switch_reset_124 : decode (jm_cod M_Switch_reset) 124 = .ok (.getfield 46, 3) := dt_Switch_reset_c2 23
def tab_Switch_reset_c3 : List (Nat × Instr × Nat) := [(127, .iconst (-1), 1), (128, .invokestatic 74, 3), (131, .aload_n 0, 1), (132, .getfield 49, 3), (135, .iconst (-1), 1), (136, .invokestatic 74, 3), (139, .aload_n 0, 1), (140, .getfield 52, 3), (143, .iconst (-1), 1), (144, .invokestatic 74, 3), (147, .aload_n 0, 1), (148, .getfield 55, 3), (151, .iconst (-1), 1), (152, .invokestatic 74, 3), (155, .aload_n 0, 1), (156, .iconst 1, 1), (157, .putfield 80, 3), (160, .aload_n 0, 1), (161, .iconst 0, 1), (162, .putfield 83, 3), (165, .aload_n 0, 1), (166, .iconst 0, 1), (167, .putfield 87, 3), (170, .aload_n 0, 1)]
theorem dt_Switch_reset_c3 (i : Nat) : decode (jm_cod M_Switch_reset) (tab_Switch_reset_c3.getD i (127, .iconst (-1), 1)).1 = .ok ((tab_Switch_reset_c3.getD i (127, .iconst (-1), 1)).2.1, (tab_Switch_reset_c3.getD i (127, .iconst (-1), 1)).2.2) := j_tab (by decide +kernel) i
theorem d_Switch_reset_127 : decode (jm_cod M_Switch_reset) 127 = .ok (.iconst (-1), 1) := dt_Switch_reset_c3 0
theorem d_Switch_reset_128 : decode (jm_cod M_Switch_reset) 128 = .ok (.invokestatic 74, 3) := dt_Switch_reset_c3 1
theorem d_Switch_reset_131 : decode (jm_cod M_Switch_reset) 131 = .ok (.aload_n 0, 1) := dt_Switch_reset_c3 2
theorem d_Switch_reset_132 : decode (jm_cod M_Switch_reset) 132 = .ok (.getfield 49, 3) := dt_Switch_reset_c3 3
theorem d_Switch_reset_135 : decode (jm_cod M_Switch_reset) 135 = .ok (.iconst (-1), 1) := dt_Switch_reset_c3 4
theorem d_Switch_reset_136 : decode (jm_cod M_Switch_reset) 136 = .ok (.invokestatic 74, 3) := dt_Switch_reset_c3 5
theorem d_Switch_reset_139 : decode (jm_cod M_Switch_reset) 139 = .ok (.aload_n 0, 1) := dt_Switch_reset_c3 6
theorem d_Switch_reset_140 : decode (jm_cod M_Switch_reset) 140 = .ok (.getfield 52, 3) := dt_Switch_reset_c3 7
theorem d_Switch_reset_143 : decode (jm_cod M_Switch_reset) 143 = .ok (.iconst (-1), 1) := dt_Switch_reset_c3 8
theorem d_Switch_reset_144 : decode (jm_cod M_Switch_reset) 144 = .ok (.invokestatic 74, 3) := dt_Switch_reset_c3 9
theorem d_Switch_reset_147 : decode (jm_cod M_Switch_reset) 147 = .ok (.aload_n 0, 1) := dt_Switch_reset_c3 10
theorem d_Switch_reset_148 : decode (jm_cod M_Switch_reset) 148 = .ok (.getfield 55, 3) := dt_Switch_reset_c3 11
theorem d_Switch_reset_151 : decode (jm_cod M_Switch_reset) 151 = .ok (.iconst (-1), 1) := dt_Switch_reset_c3 12
theorem d_Switch_reset_152 : decode (jm_cod M_Switch_reset) 152 = .ok (.invokestatic 74, 3) := dt_Switch_reset_c3 13
theorem d_Switch_reset_155 : decode (jm_cod M_Switch_reset) 155 = .ok (.aload_n 0, 1) := dt_Switch_reset_c3 14
theorem d_Switch_reset_156 : decode (jm_cod M_Switch_reset) 156 = .ok (.iconst 1, 1) := dt_Switch_reset_c3 15
theorem d_Switch_reset_157 : decode (jm_cod M_Switch_reset) 157 = .ok (.putfield 80, 3) := dt_Switch_reset_c3 16
theorem d_Switch_reset_160 : decode (jm_cod M_Switch_reset) 160 = .ok (.aload_n 0, 1) := dt_Switch_reset_c3 17
theorem d_Switch_reset_161 : decode (jm_cod M_Switch_reset) 161 = .ok (.iconst 0, 1) := dt_Switch_reset_c3 18
theorem d_Switch_reset_162 : decode (jm_cod M_Switch_reset) 162 = .ok (.putfield 83, 3) := dt_Switch_reset_c3 19
theorem d_Switch_reset_165 : decode (jm_cod M_Switch_reset) 165 = .ok (.aload_n 0, 1) := dt_Switch_reset_c3 20
theorem d_Switch_reset_166 : decode (jm_cod M_Switch_reset) 166 = .ok (.iconst 0, 1) := dt_Switch_reset_c3 21
theorem d_Switch_reset_167 : decode (jm_cod M_Switch_reset) 167 = .ok (.putfield 87, 3) := dt_Switch_reset_c3 22
theorem d_Switch_reset_170 : decode (jm_cod M_Switch_reset) 170 = .ok (.aload_n 0, 1) := dt_Switch_reset_c3 23
def tab_Switch_reset_c4 : List (Nat × Instr × Nat) := [(171, .iconst 0, 1), (172, .putfield 90, 3), (175, .return_, 1)]
theorem dt_Switch_reset_c4 (i : Nat) : decode (jm_cod M_Switch_reset) (tab_Switch_reset_c4.getD i (171, .iconst 0, 1)).1 = .ok ((tab_Switch_reset_c4.getD i (171, .iconst 0, 1)).2.1, (tab_Switch_reset_c4.getD i (171, .iconst 0, 1)).2.2) := j_tab (by decide +kernel) i
theorem d_Switch_reset_171 : decode (jm_cod M_Switch_reset) 171 = .ok (.iconst 0, 1) := dt_Switch_reset_c4 0
theorem d_Switch_reset_172 : decode (jm_cod M_Switch_reset) 172 = .ok (.putfield 90, 3) := dt_Switch_reset_c4 1
theorem d_Switch_reset_175 : decode (jm_cod M_Switch_reset) 175 = .ok (.return_, 1) := dt_Switch_reset_c4 2
def tab_Switch_tellMaster_c0 : List (Nat × Instr × Nat) := [(0, .iconst 0, 1), (1, .istore_n 3, 1), (2, .iload_n 3, 1), (3, .iconst 5, 1), (4, .if_icmp .ge 24, 3), (7, .aload_n 1, 1), (8, .iload_n 3, 1), (9, .aload_n 0, 1), (10, .iload_n 2, 1), (11, .iload_n 3, 1), (12, .invokevirtual 107, 3), (15, .iload_n 3, 1), (16, .invokestatic 111, 3), (19, .invokestatic 115, 3), (22, .iinc 3 1, 3), (25, .goto (-23), 3), (28, .return_, 1)]
theorem dt_Switch_tellMaster_c0 (i : Nat) : decode (jm_cod M_Switch_tellMaster) (tab_Switch_tellMaster_c0.getD i (0, .iconst 0, 1)).1 = .ok ((tab_Switch_tellMaster_c0.getD i (0, .iconst 0, 1)).2.1, (tab_Switch_tellMaster_c0.getD i (0, .iconst 0, 1)).2.2) := j_tab (by decide +kernel) i
theorem d_Switch_tellMaster_0 : decode (jm_cod M_Switch_tellMaster) 0 = .ok (.iconst 0, 1) := dt_Switch_tellMaster_c0 0
theorem d_Switch_tellMaster_1 : decode (jm_cod M_Switch_tellMaster) 1 = .ok (.istore_n 3, 1) := dt_Switch_tellMaster_c0 1
theorem d_Switch_tellMaster_2 : decode (jm_cod M_Switch_tellMaster) 2 = .ok (.iload_n 3, 1) := dt_Switch_tellMaster_c0 2
theorem d_Switch_tellMaster_3 : decode (jm_cod M_Switch_tellMaster) 3 = .ok (.iconst 5, 1) := dt_Switch_tellMaster_c0 3
theorem d_Switch_tellMaster_4 : decode (jm_cod M_Switch_tellMaster) 4 = .ok (.if_icmp .ge 24, 3) := dt_Switch_tellMaster_c0 4
theorem d_Switch_tellMaster_7 : decode (jm_cod M_Switch_tellMaster) 7 = .ok (.aload_n 1, 1) := dt_Switch_tellMaster_c0 5
theorem d_Switch_tellMaster_8 : decode (jm_cod M_Switch_tellMaster) 8 = .ok (.iload_n 3, 1) := dt_Switch_tellMaster_c0 6
theorem d_Switch_tellMaster_9 : decode (jm_cod M_Switch_tellMaster) 9 = .ok (.aload_n 0, 1) := dt_Switch_tellMaster_c0 7
theorem d_Switch_tellMaster_10 : decode (jm_cod M_Switch_tellMaster) 10 = .ok (.iload_n 2, 1) := dt_Switch_tellMaster_c0 8
theorem d_Switch_tellMaster_11 : decode (jm_cod M_Switch_tellMaster) 11 = .ok (.iload_n 3, 1) := dt_Switch_tellMaster_c0 9
theorem d_Switch_tellMaster_12 : decode (jm_cod M_Switch_tellMaster) 12 = .ok (.invokevirtual 107, 3) := dt_Switch_tellMaster_c0 10
theorem d_Switch_tellMaster_15 : decode (jm_cod M_Switch_tellMaster) 15 = .ok (.iload_n 3, 1) := dt_Switch_tellMaster_c0 11
theorem d_Switch_tellMaster_16 : decode (jm_cod M_Switch_tellMaster) 16 = .ok (.invokestatic 111, 3) := dt_Switch_tellMaster_c0 12
theorem d_Switch_tellMaster_19 : decode (jm_cod M_Switch_tellMaster) 19 = .ok (.invokestatic 115, 3) := dt_Switch_tellMaster_c0 13
theorem d_Switch_tellMaster_22 : decode (jm_cod M_Switch_tellMaster) 22 = .ok (.iinc 3 1, 3) := dt_Switch_tellMaster_c0 14
theorem d_Switch_tellMaster_25 : decode (jm_cod M_Switch_tellMaster) 25 = .ok (.goto (-23), 3) := dt_Switch_tellMaster_c0 15
theorem d_Switch_tellMaster_28 : decode (jm_cod M_Switch_tellMaster) 28 = .ok (.return_, 1) := dt_Switch_tellMaster_c0 16
def tab_Switch_ofMaster_c0 : List (Nat × Instr × Nat) := [(0, .aload_n 0, 1), (1, .getfield 29, 3), (4, .iload_n 1, 1), (5, .iconst 5, 1), (6, .imul, 1), (7, .iload_n 2, 1), (8, .iadd, 1), (9, .aaload, 1), (10, .areturn, 1)]
theorem dt_Switch_ofMaster_c0 (i : Nat) : decode (jm_cod M_Switch_ofMaster) (tab_Switch_ofMaster_c0.getD i (0, .aload_n 0, 1)).1 = .ok ((tab_Switch_ofMaster_c0.getD i (0, .aload_n 0, 1)).2.1, (tab_Switch_ofMaster_c0.getD i (0, .aload_n 0, 1)).2.2) := j_tab (by decide +kernel) i
theorem d_Switch_ofMaster_0 : decode (jm_cod M_Switch_ofMaster) 0 = .ok (.aload_n 0, 1) := dt_Switch_ofMaster_c0 0
theorem d_Switch_ofMaster_1 : decode (jm_cod M_Switch_ofMaster) 1 = .ok (.getfield 29, 3) := dt_Switch_ofMaster_c0 1
theorem d_Switch_ofMaster_4 : decode (jm_cod M_Switch_ofMaster) 4 = .ok (.iload_n 1, 1) := dt_Switch_ofMaster_c0 2
theorem d_Switch_ofMaster_5 : decode (jm_cod M_Switch_ofMaster) 5 = .ok (.iconst 5, 1) := dt_Switch_ofMaster_c0 3
theorem d_Switch_ofMaster_6 : decode (jm_cod M_Switch_ofMaster) 6 = .ok (.imul, 1) := dt_Switch_ofMaster_c0 4
theorem d_Switch_ofMaster_7 : decode (jm_cod M_Switch_ofMaster) 7 = .ok (.iload_n 2, 1) := dt_Switch_ofMaster_c0 5
theorem d_Switch_ofMaster_8 : decode (jm_cod M_Switch_ofMaster) 8 = .ok (.iadd, 1) := dt_Switch_ofMaster_c0 6
theorem d_Switch_ofMaster_9 : decode (jm_cod M_Switch_ofMaster) 9 = .ok (.aaload, 1) := dt_Switch_ofMaster_c0 7
theorem d_Switch_ofMaster_10 : decode (jm_cod M_Switch_ofMaster) 10 = .ok (.areturn, 1) := dt_Switch_ofMaster_c0 8
def tab_Switch_tellRow_c0 : List (Nat × Instr × Nat) := [(0, .iload_n 3, 1), (1, .ifCond .eq 16, 3), (4, .aload_n 0, 1), (5, .getfield 122, 3), (8, .iload_n 1, 1), (9, .aload_n 2, 1), (10, .invokevirtual 127, 3), (13, .bastore, 1), (14, .goto 23, 3), (17, .aload_n 2, 1), (18, .invokevirtual 131, 3), (21, .ifCond .eq 16, 3), (24, .aload_n 0, 1), (25, .iload_n 1, 1), (26, .aload_n 2, 1), (27, .invokevirtual 134, 3), (30, .aload_n 2, 1), (31, .invokevirtual 138, 3), (34, .invokevirtual 142, 3), (37, .return_, 1)]
theorem dt_Switch_tellRow_c0 (i : Nat) : decode (jm_cod M_Switch_tellRow) (tab_Switch_tellRow_c0.getD i (0, .iload_n 3, 1)).1 = .ok ((tab_Switch_tellRow_c0.getD i (0, .iload_n 3, 1)).2.1, (tab_Switch_tellRow_c0.getD i (0, .iload_n 3, 1)).2.2) := j_tab (by decide +kernel) i
theorem d_Switch_tellRow_0 : decode (jm_cod M_Switch_tellRow) 0 = .ok (.iload_n 3, 1) := dt_Switch_tellRow_c0 0
theorem d_Switch_tellRow_1 : decode (jm_cod M_Switch_tellRow) 1 = .ok (.ifCond .eq 16, 3) := dt_Switch_tellRow_c0 1
theorem d_Switch_tellRow_4 : decode (jm_cod M_Switch_tellRow) 4 = .ok (.aload_n 0, 1) := dt_Switch_tellRow_c0 2
theorem d_Switch_tellRow_5 : decode (jm_cod M_Switch_tellRow) 5 = .ok (.getfield 122, 3) := dt_Switch_tellRow_c0 3
theorem d_Switch_tellRow_8 : decode (jm_cod M_Switch_tellRow) 8 = .ok (.iload_n 1, 1) := dt_Switch_tellRow_c0 4
theorem d_Switch_tellRow_9 : decode (jm_cod M_Switch_tellRow) 9 = .ok (.aload_n 2, 1) := dt_Switch_tellRow_c0 5
theorem d_Switch_tellRow_10 : decode (jm_cod M_Switch_tellRow) 10 = .ok (.invokevirtual 127, 3) := dt_Switch_tellRow_c0 6
theorem d_Switch_tellRow_13 : decode (jm_cod M_Switch_tellRow) 13 = .ok (.bastore, 1) := dt_Switch_tellRow_c0 7
theorem d_Switch_tellRow_14 : decode (jm_cod M_Switch_tellRow) 14 = .ok (.goto 23, 3) := dt_Switch_tellRow_c0 8
theorem d_Switch_tellRow_17 : decode (jm_cod M_Switch_tellRow) 17 = .ok (.aload_n 2, 1) := dt_Switch_tellRow_c0 9
theorem d_Switch_tellRow_18 : decode (jm_cod M_Switch_tellRow) 18 = .ok (.invokevirtual 131, 3) := dt_Switch_tellRow_c0 10
theorem d_Switch_tellRow_21 : decode (jm_cod M_Switch_tellRow) 21 = .ok (.ifCond .eq 16, 3) := dt_Switch_tellRow_c0 11
theorem d_Switch_tellRow_24 : decode (jm_cod M_Switch_tellRow) 24 = .ok (.aload_n 0, 1) := dt_Switch_tellRow_c0 12
theorem d_Switch_tellRow_25 : decode (jm_cod M_Switch_tellRow) 25 = .ok (.iload_n 1, 1) := dt_Switch_tellRow_c0 13
theorem d_Switch_tellRow_26 : decode (jm_cod M_Switch_tellRow) 26 = .ok (.aload_n 2, 1) := dt_Switch_tellRow_c0 14
theorem d_Switch_tellRow_27 : decode (jm_cod M_Switch_tellRow) 27 = .ok (.invokevirtual 134, 3) := dt_Switch_tellRow_c0 15
theorem d_Switch_tellRow_30 : decode (jm_cod M_Switch_tellRow) 30 = .ok (.aload_n 2, 1) := dt_Switch_tellRow_c0 16
theorem d_Switch_tellRow_31 : decode (jm_cod M_Switch_tellRow) 31 = .ok (.invokevirtual 138, 3) := dt_Switch_tellRow_c0 17
theorem d_Switch_tellRow_34 : decode (jm_cod M_Switch_tellRow) 34 = .ok (.invokevirtual 142, 3) := dt_Switch_tellRow_c0 18
theorem d_Switch_tellRow_37 : decode (jm_cod M_Switch_tellRow) 37 = .ok (.return_, 1) := dt_Switch_tellRow_c0 19
def tab_Switch_tellSlave_c0 : List (Nat × Instr × Nat) := [(0, .iconst 0, 1), (1, .istore_n 3, 1), (2, .iload_n 3, 1), (3, .iconst 5, 1), (4, .if_icmp .ge 32, 3), (7, .aload_n 1, 1), (8, .iload_n 3, 1), (9, .aload_n 0, 1), (10, .iload_n 2, 1), (11, .iload_n 3, 1), (12, .invokevirtual 119, 3), (15, .iload_n 3, 1), (16, .invokestatic 111, 3), (19, .ifCond .ne 7, 3), (22, .iconst 1, 1), (23, .goto 4, 3), (26, .iconst 0, 1), (27, .invokestatic 115, 3), (30, .iinc 3 1, 3), (33, .goto (-31), 3), (36, .return_, 1)]
theorem dt_Switch_tellSlave_c0 (i : Nat) : decode (jm_cod M_Switch_tellSlave) (tab_Switch_tellSlave_c0.getD i (0, .iconst 0, 1)).1 = .ok ((tab_Switch_tellSlave_c0.getD i (0, .iconst 0, 1)).2.1, (tab_Switch_tellSlave_c0.getD i (0, .iconst 0, 1)).2.2) := j_tab (by decide +kernel) i
theorem d_Switch_tellSlave_0 : decode (jm_cod M_Switch_tellSlave) 0 = .ok (.iconst 0, 1) := dt_Switch_tellSlave_c0 0
theorem d_Switch_tellSlave_1 : decode (jm_cod M_Switch_tellSlave) 1 = .ok (.istore_n 3, 1) := dt_Switch_tellSlave_c0 1
theorem d_Switch_tellSlave_2 : decode (jm_cod M_Switch_tellSlave) 2 = .ok (.iload_n 3, 1) := dt_Switch_tellSlave_c0 2
theorem d_Switch_tellSlave_3 : decode (jm_cod M_Switch_tellSlave) 3 = .ok (.iconst 5, 1) := dt_Switch_tellSlave_c0 3
theorem d_Switch_tellSlave_4 : decode (jm_cod M_Switch_tellSlave) 4 = .ok (.if_icmp .ge 32, 3) := dt_Switch_tellSlave_c0 4
theorem d_Switch_tellSlave_7 : decode (jm_cod M_Switch_tellSlave) 7 = .ok (.aload_n 1, 1) := dt_Switch_tellSlave_c0 5
theorem d_Switch_tellSlave_8 : decode (jm_cod M_Switch_tellSlave) 8 = .ok (.iload_n 3, 1) := dt_Switch_tellSlave_c0 6
theorem d_Switch_tellSlave_9 : decode (jm_cod M_Switch_tellSlave) 9 = .ok (.aload_n 0, 1) := dt_Switch_tellSlave_c0 7
theorem d_Switch_tellSlave_10 : decode (jm_cod M_Switch_tellSlave) 10 = .ok (.iload_n 2, 1) := dt_Switch_tellSlave_c0 8
theorem d_Switch_tellSlave_11 : decode (jm_cod M_Switch_tellSlave) 11 = .ok (.iload_n 3, 1) := dt_Switch_tellSlave_c0 9
theorem d_Switch_tellSlave_12 : decode (jm_cod M_Switch_tellSlave) 12 = .ok (.invokevirtual 119, 3) := dt_Switch_tellSlave_c0 10
theorem d_Switch_tellSlave_15 : decode (jm_cod M_Switch_tellSlave) 15 = .ok (.iload_n 3, 1) := dt_Switch_tellSlave_c0 11
theorem d_Switch_tellSlave_16 : decode (jm_cod M_Switch_tellSlave) 16 = .ok (.invokestatic 111, 3) := dt_Switch_tellSlave_c0 12
theorem d_Switch_tellSlave_19 : decode (jm_cod M_Switch_tellSlave) 19 = .ok (.ifCond .ne 7, 3) := dt_Switch_tellSlave_c0 13
theorem d_Switch_tellSlave_22 : decode (jm_cod M_Switch_tellSlave) 22 = .ok (.iconst 1, 1) := dt_Switch_tellSlave_c0 14
theorem d_Switch_tellSlave_23 : decode (jm_cod M_Switch_tellSlave) 23 = .ok (.goto 4, 3) := dt_Switch_tellSlave_c0 15
theorem d_Switch_tellSlave_26 : decode (jm_cod M_Switch_tellSlave) 26 = .ok (.iconst 0, 1) := dt_Switch_tellSlave_c0 16
theorem d_Switch_tellSlave_27 : decode (jm_cod M_Switch_tellSlave) 27 = .ok (.invokestatic 115, 3) := dt_Switch_tellSlave_c0 17
theorem d_Switch_tellSlave_30 : decode (jm_cod M_Switch_tellSlave) 30 = .ok (.iinc 3 1, 3) := dt_Switch_tellSlave_c0 18
theorem d_Switch_tellSlave_33 : decode (jm_cod M_Switch_tellSlave) 33 = .ok (.goto (-31), 3) := dt_Switch_tellSlave_c0 19
theorem d_Switch_tellSlave_36 : decode (jm_cod M_Switch_tellSlave) 36 = .ok (.return_, 1) := dt_Switch_tellSlave_c0 20
def tab_Switch_ofTarget_c0 : List (Nat × Instr × Nat) := [(0, .aload_n 0, 1), (1, .getfield 33, 3), (4, .iload_n 1, 1), (5, .iconst 5, 1), (6, .imul, 1), (7, .iload_n 2, 1), (8, .iadd, 1), (9, .aaload, 1), (10, .areturn, 1)]
theorem dt_Switch_ofTarget_c0 (i : Nat) : decode (jm_cod M_Switch_ofTarget) (tab_Switch_ofTarget_c0.getD i (0, .aload_n 0, 1)).1 = .ok ((tab_Switch_ofTarget_c0.getD i (0, .aload_n 0, 1)).2.1, (tab_Switch_ofTarget_c0.getD i (0, .aload_n 0, 1)).2.2) := j_tab (by decide +kernel) i
theorem d_Switch_ofTarget_0 : decode (jm_cod M_Switch_ofTarget) 0 = .ok (.aload_n 0, 1) := dt_Switch_ofTarget_c0 0
theorem d_Switch_ofTarget_1 : decode (jm_cod M_Switch_ofTarget) 1 = .ok (.getfield 33, 3) := dt_Switch_ofTarget_c0 1
theorem d_Switch_ofTarget_4 : decode (jm_cod M_Switch_ofTarget) 4 = .ok (.iload_n 1, 1) := dt_Switch_ofTarget_c0 2
theorem d_Switch_ofTarget_5 : decode (jm_cod M_Switch_ofTarget) 5 = .ok (.iconst 5, 1) := dt_Switch_ofTarget_c0 3
theorem d_Switch_ofTarget_6 : decode (jm_cod M_Switch_ofTarget) 6 = .ok (.imul, 1) := dt_Switch_ofTarget_c0 4
theorem d_Switch_ofTarget_7 : decode (jm_cod M_Switch_ofTarget) 7 = .ok (.iload_n 2, 1) := dt_Switch_ofTarget_c0 5
theorem d_Switch_ofTarget_8 : decode (jm_cod M_Switch_ofTarget) 8 = .ok (.iadd, 1) := dt_Switch_ofTarget_c0 6
theorem d_Switch_ofTarget_9 : decode (jm_cod M_Switch_ofTarget) 9 = .ok (.aaload, 1) := dt_Switch_ofTarget_c0 7
theorem d_Switch_ofTarget_10 : decode (jm_cod M_Switch_ofTarget) 10 = .ok (.areturn, 1) := dt_Switch_ofTarget_c0 8
def tab_Switch_passMaster_c0 : List (Nat × Instr × Nat) := [(0, .aload_n 1, 1), (1, .iload_n 3, 1), (2, .aload_n 0, 1), (3, .iload_n 2, 1), (4, .iload_n 3, 1), (5, .invokevirtual 107, 3), (8, .iload_n 3, 1), (9, .invokestatic 111, 3), (12, .iload 4, 2), (14, .invokestatic 146, 3), (17, .return_, 1)]
theorem dt_Switch_passMaster_c0 (i : Nat) : decode (jm_cod M_Switch_passMaster) (tab_Switch_passMaster_c0.getD i (0, .aload_n 1, 1)).1 = .ok ((tab_Switch_passMaster_c0.getD i (0, .aload_n 1, 1)).2.1, (tab_Switch_passMaster_c0.getD i (0, .aload_n 1, 1)).2.2) := j_tab (by decide +kernel) i
theorem d_Switch_passMaster_0 : decode (jm_cod M_Switch_passMaster) 0 = .ok (.aload_n 1, 1) := dt_Switch_passMaster_c0 0
theorem d_Switch_passMaster_1 : decode (jm_cod M_Switch_passMaster) 1 = .ok (.iload_n 3, 1) := dt_Switch_passMaster_c0 1
theorem d_Switch_passMaster_2 : decode (jm_cod M_Switch_passMaster) 2 = .ok (.aload_n 0, 1) := dt_Switch_passMaster_c0 2
theorem d_Switch_passMaster_3 : decode (jm_cod M_Switch_passMaster) 3 = .ok (.iload_n 2, 1) := dt_Switch_passMaster_c0 3
theorem d_Switch_passMaster_4 : decode (jm_cod M_Switch_passMaster) 4 = .ok (.iload_n 3, 1) := dt_Switch_passMaster_c0 4
theorem d_Switch_passMaster_5 : decode (jm_cod M_Switch_passMaster) 5 = .ok (.invokevirtual 107, 3) := dt_Switch_passMaster_c0 5
theorem d_Switch_passMaster_8 : decode (jm_cod M_Switch_passMaster) 8 = .ok (.iload_n 3, 1) := dt_Switch_passMaster_c0 6
theorem d_Switch_passMaster_9 : decode (jm_cod M_Switch_passMaster) 9 = .ok (.invokestatic 111, 3) := dt_Switch_passMaster_c0 7
theorem d_Switch_passMaster_12 : decode (jm_cod M_Switch_passMaster) 12 = .ok (.iload 4, 2) := dt_Switch_passMaster_c0 8
theorem d_Switch_passMaster_14 : decode (jm_cod M_Switch_passMaster) 14 = .ok (.invokestatic 146, 3) := dt_Switch_passMaster_c0 9
theorem d_Switch_passMaster_17 : decode (jm_cod M_Switch_passMaster) 17 = .ok (.return_, 1) := dt_Switch_passMaster_c0 10
def tab_Switch_passRow_c0 : List (Nat × Instr × Nat) := [(0, .iload_n 3, 1), (1, .ifCond .eq 24, 3), (4, .aload_n 2, 1), (5, .aload_n 0, 1), (6, .getfield 150, 3), (9, .iload_n 1, 1), (10, .laload, 1), (11, .aload_n 0, 1), (12, .getfield 154, 3), (15, .iload_n 1, 1), (16, .iaload, 1), (17, .iload 4, 2), (19, .invokevirtual 157, 3), (22, .goto 7, 3), (25, .aload_n 2, 1), (26, .invokevirtual 161, 3), (29, .return_, 1)]
theorem dt_Switch_passRow_c0 (i : Nat) : decode (jm_cod M_Switch_passRow) (tab_Switch_passRow_c0.getD i (0, .iload_n 3, 1)).1 = .ok ((tab_Switch_passRow_c0.getD i (0, .iload_n 3, 1)).2.1, (tab_Switch_passRow_c0.getD i (0, .iload_n 3, 1)).2.2) := j_tab (by decide +kernel) i
theorem d_Switch_passRow_0 : decode (jm_cod M_Switch_passRow) 0 = .ok (.iload_n 3, 1) := dt_Switch_passRow_c0 0
theorem d_Switch_passRow_1 : decode (jm_cod M_Switch_passRow) 1 = .ok (.ifCond .eq 24, 3) := dt_Switch_passRow_c0 1
theorem d_Switch_passRow_4 : decode (jm_cod M_Switch_passRow) 4 = .ok (.aload_n 2, 1) := dt_Switch_passRow_c0 2
theorem d_Switch_passRow_5 : decode (jm_cod M_Switch_passRow) 5 = .ok (.aload_n 0, 1) := dt_Switch_passRow_c0 3
theorem d_Switch_passRow_6 : decode (jm_cod M_Switch_passRow) 6 = .ok (.getfield 150, 3) := dt_Switch_passRow_c0 4
theorem d_Switch_passRow_9 : decode (jm_cod M_Switch_passRow) 9 = .ok (.iload_n 1, 1) := dt_Switch_passRow_c0 5
theorem d_Switch_passRow_10 : decode (jm_cod M_Switch_passRow) 10 = .ok (.laload, 1) := dt_Switch_passRow_c0 6
theorem d_Switch_passRow_11 : decode (jm_cod M_Switch_passRow) 11 = .ok (.aload_n 0, 1) := dt_Switch_passRow_c0 7
theorem d_Switch_passRow_12 : decode (jm_cod M_Switch_passRow) 12 = .ok (.getfield 154, 3) := dt_Switch_passRow_c0 8
theorem d_Switch_passRow_15 : decode (jm_cod M_Switch_passRow) 15 = .ok (.iload_n 1, 1) := dt_Switch_passRow_c0 9
theorem d_Switch_passRow_16 : decode (jm_cod M_Switch_passRow) 16 = .ok (.iaload, 1) := dt_Switch_passRow_c0 10
theorem d_Switch_passRow_17 : decode (jm_cod M_Switch_passRow) 17 = .ok (.iload 4, 2) := dt_Switch_passRow_c0 11
theorem d_Switch_passRow_19 : decode (jm_cod M_Switch_passRow) 19 = .ok (.invokevirtual 157, 3) := dt_Switch_passRow_c0 12
theorem d_Switch_passRow_22 : decode (jm_cod M_Switch_passRow) 22 = .ok (.goto 7, 3) := dt_Switch_passRow_c0 13
theorem d_Switch_passRow_25 : decode (jm_cod M_Switch_passRow) 25 = .ok (.aload_n 2, 1) := dt_Switch_passRow_c0 14
theorem d_Switch_passRow_26 : decode (jm_cod M_Switch_passRow) 26 = .ok (.invokevirtual 161, 3) := dt_Switch_passRow_c0 15
theorem d_Switch_passRow_29 : decode (jm_cod M_Switch_passRow) 29 = .ok (.return_, 1) := dt_Switch_passRow_c0 16
def tab_Switch_passSlave_c0 : List (Nat × Instr × Nat) := [(0, .aload_n 1, 1), (1, .iload_n 3, 1), (2, .aload_n 0, 1), (3, .iload_n 2, 1), (4, .iload_n 3, 1), (5, .invokevirtual 119, 3), (8, .iload_n 3, 1), (9, .invokestatic 111, 3), (12, .ifCond .ne 7, 3), (15, .iconst 1, 1), (16, .goto 4, 3), (19, .iconst 0, 1), (20, .iload 4, 2), (22, .invokestatic 146, 3), (25, .return_, 1)]
theorem dt_Switch_passSlave_c0 (i : Nat) : decode (jm_cod M_Switch_passSlave) (tab_Switch_passSlave_c0.getD i (0, .aload_n 1, 1)).1 = .ok ((tab_Switch_passSlave_c0.getD i (0, .aload_n 1, 1)).2.1, (tab_Switch_passSlave_c0.getD i (0, .aload_n 1, 1)).2.2) := j_tab (by decide +kernel) i
theorem d_Switch_passSlave_0 : decode (jm_cod M_Switch_passSlave) 0 = .ok (.aload_n 1, 1) := dt_Switch_passSlave_c0 0
theorem d_Switch_passSlave_1 : decode (jm_cod M_Switch_passSlave) 1 = .ok (.iload_n 3, 1) := dt_Switch_passSlave_c0 1
theorem d_Switch_passSlave_2 : decode (jm_cod M_Switch_passSlave) 2 = .ok (.aload_n 0, 1) := dt_Switch_passSlave_c0 2
theorem d_Switch_passSlave_3 : decode (jm_cod M_Switch_passSlave) 3 = .ok (.iload_n 2, 1) := dt_Switch_passSlave_c0 3
theorem d_Switch_passSlave_4 : decode (jm_cod M_Switch_passSlave) 4 = .ok (.iload_n 3, 1) := dt_Switch_passSlave_c0 4
theorem d_Switch_passSlave_5 : decode (jm_cod M_Switch_passSlave) 5 = .ok (.invokevirtual 119, 3) := dt_Switch_passSlave_c0 5
theorem d_Switch_passSlave_8 : decode (jm_cod M_Switch_passSlave) 8 = .ok (.iload_n 3, 1) := dt_Switch_passSlave_c0 6
theorem d_Switch_passSlave_9 : decode (jm_cod M_Switch_passSlave) 9 = .ok (.invokestatic 111, 3) := dt_Switch_passSlave_c0 7
theorem d_Switch_passSlave_12 : decode (jm_cod M_Switch_passSlave) 12 = .ok (.ifCond .ne 7, 3) := dt_Switch_passSlave_c0 8
theorem d_Switch_passSlave_15 : decode (jm_cod M_Switch_passSlave) 15 = .ok (.iconst 1, 1) := dt_Switch_passSlave_c0 9
theorem d_Switch_passSlave_16 : decode (jm_cod M_Switch_passSlave) 16 = .ok (.goto 4, 3) := dt_Switch_passSlave_c0 10
theorem d_Switch_passSlave_19 : decode (jm_cod M_Switch_passSlave) 19 = .ok (.iconst 0, 1) := dt_Switch_passSlave_c0 11
theorem d_Switch_passSlave_20 : decode (jm_cod M_Switch_passSlave) 20 = .ok (.iload 4, 2) := dt_Switch_passSlave_c0 12
theorem d_Switch_passSlave_22 : decode (jm_cod M_Switch_passSlave) 22 = .ok (.invokestatic 146, 3) := dt_Switch_passSlave_c0 13
theorem d_Switch_passSlave_25 : decode (jm_cod M_Switch_passSlave) 25 = .ok (.return_, 1) := dt_Switch_passSlave_c0 14
def tab_Switch_moveAll_c0 : List (Nat × Instr × Nat) := [(0, .iconst 0, 1), (1, .istore_n 1, 1), (2, .iload_n 1, 1), (3, .aload_n 0, 1), (4, .getfield 19, 3), (7, .if_icmp .gt 19, 3), (10, .aload_n 0, 1), (11, .iload_n 1, 1), (12, .iconst 0, 1), (13, .aload_n 0, 1), (14, .getfield 46, 3), (17, .invokevirtual 164, 3), (20, .iinc 1 1, 3), (23, .goto (-21), 3), (26, .iconst 0, 1), (27, .istore_n 1, 1), (28, .iload_n 1, 1), (29, .aload_n 0, 1), (30, .getfield 19, 3), (33, .if_icmp .gt 19, 3), (36, .aload_n 0, 1), (37, .iload_n 1, 1), (38, .iconst 3, 1), (39, .aload_n 0, 1)]
theorem dt_Switch_moveAll_c0 (i : Nat) : decode (jm_cod M_Switch_moveAll) (tab_Switch_moveAll_c0.getD i (0, .iconst 0, 1)).1 = .ok ((tab_Switch_moveAll_c0.getD i (0, .iconst 0, 1)).2.1, (tab_Switch_moveAll_c0.getD i (0, .iconst 0, 1)).2.2) := j_tab (by decide +kernel) i
theorem d_Switch_moveAll_0 : decode (jm_cod M_Switch_moveAll) 0 = .ok (.iconst 0, 1) := dt_Switch_moveAll_c0 0
theorem d_Switch_moveAll_1 : decode (jm_cod M_Switch_moveAll) 1 = .ok (.istore_n 1, 1) := dt_Switch_moveAll_c0 1
theorem d_Switch_moveAll_2 : decode (jm_cod M_Switch_moveAll) 2 = .ok (.iload_n 1, 1) := dt_Switch_moveAll_c0 2
theorem d_Switch_moveAll_3 : decode (jm_cod M_Switch_moveAll) 3 = .ok (.aload_n 0, 1) := dt_Switch_moveAll_c0 3
theorem d_Switch_moveAll_4 : decode (jm_cod M_Switch_moveAll) 4 = .ok (.getfield 19, 3) := dt_Switch_moveAll_c0 4
theorem d_Switch_moveAll_7 : decode (jm_cod M_Switch_moveAll) 7 = .ok (.if_icmp .gt 19, 3) := dt_Switch_moveAll_c0 5
theorem d_Switch_moveAll_10 : decode (jm_cod M_Switch_moveAll) 10 = .ok (.aload_n 0, 1) := dt_Switch_moveAll_c0 6
theorem d_Switch_moveAll_11 : decode (jm_cod M_Switch_moveAll) 11 = .ok (.iload_n 1, 1) := dt_Switch_moveAll_c0 7
theorem d_Switch_moveAll_12 : decode (jm_cod M_Switch_moveAll) 12 = .ok (.iconst 0, 1) := dt_Switch_moveAll_c0 8
theorem d_Switch_moveAll_13 : decode (jm_cod M_Switch_moveAll) 13 = .ok (.aload_n 0, 1) := dt_Switch_moveAll_c0 9
theorem d_Switch_moveAll_14 : decode (jm_cod M_Switch_moveAll) 14 = .ok (.getfield 46, 3) := dt_Switch_moveAll_c0 10
theorem d_Switch_moveAll_17 : decode (jm_cod M_Switch_moveAll) 17 = .ok (.invokevirtual 164, 3) := dt_Switch_moveAll_c0 11
theorem d_Switch_moveAll_20 : decode (jm_cod M_Switch_moveAll) 20 = .ok (.iinc 1 1, 3) := dt_Switch_moveAll_c0 12
theorem d_Switch_moveAll_23 : decode (jm_cod M_Switch_moveAll) 23 = .ok (.goto (-21), 3) := dt_Switch_moveAll_c0 13
theorem d_Switch_moveAll_26 : decode (jm_cod M_Switch_moveAll) 26 = .ok (.iconst 0, 1) := dt_Switch_moveAll_c0 14
theorem d_Switch_moveAll_27 : decode (jm_cod M_Switch_moveAll) 27 = .ok (.istore_n 1, 1) := dt_Switch_moveAll_c0 15
theorem d_Switch_moveAll_28 : decode (jm_cod M_Switch_moveAll) 28 = .ok (.iload_n 1, 1) := dt_Switch_moveAll_c0 16
theorem d_Switch_moveAll_29 : decode (jm_cod M_Switch_moveAll) 29 = .ok (.aload_n 0, 1) := dt_Switch_moveAll_c0 17
theorem d_Switch_moveAll_30 : decode (jm_cod M_Switch_moveAll) 30 = .ok (.getfield 19, 3) := dt_Switch_moveAll_c0 18
theorem d_Switch_moveAll_33 : decode (jm_cod M_Switch_moveAll) 33 = .ok (.if_icmp .gt 19, 3) := dt_Switch_moveAll_c0 19
theorem d_Switch_moveAll_36 : decode (jm_cod M_Switch_moveAll) 36 = .ok (.aload_n 0, 1) := dt_Switch_moveAll_c0 20
theorem d_Switch_moveAll_37 : decode (jm_cod M_Switch_moveAll) 37 = .ok (.iload_n 1, 1) := dt_Switch_moveAll_c0 21
theorem d_Switch_moveAll_38 : decode (jm_cod M_Switch_moveAll) 38 = .ok (.iconst 3, 1) := dt_Switch_moveAll_c0 22
theorem d_Switch_moveAll_39 : decode (jm_cod M_Switch_moveAll) 39 = .ok (.aload_n 0, 1) := dt_Switch_moveAll_c0 23
def tab_Switch_moveAll_c1 : List (Nat × Instr × Nat) := [(40, .getfield 49, 3), (43, .invokevirtual 164, 3), (46, .iinc 1 1, 3), (49, .goto (-21), 3), (52, .iconst 0, 1), (53, .istore_n 1, 1), (54, .iload_n 1, 1), (55, .aload_n 0, 1), (56, .getfield 15, 3), (59, .if_icmp .ge 14, 3), (62, .aload_n 0, 1), (63, .iload_n 1, 1), (64, .invokevirtual 168, 3), (67, .iinc 1 1, 3), (70, .goto (-16), 3), (73, .aload_n 0, 1), (74, .invokevirtual 171, 3), (77, .aload_n 0, 1), (78, .invokevirtual 174, 3), (81, .iconst 0, 1), (82, .istore_n 1, 1), (83, .iload_n 1, 1), (84, .aload_n 0, 1), (85, .getfield 15, 3)]
theorem dt_Switch_moveAll_c1 (i : Nat) : decode (jm_cod M_Switch_moveAll) (tab_Switch_moveAll_c1.getD i (40, .getfield 49, 3)).1 = .ok ((tab_Switch_moveAll_c1.getD i (40, .getfield 49, 3)).2.1, (tab_Switch_moveAll_c1.getD i (40, .getfield 49, 3)).2.2) := j_tab (by decide +kernel) i
theorem d_Switch_moveAll_40 : decode (jm_cod M_Switch_moveAll) 40 = .ok (.getfield 49, 3) := dt_Switch_moveAll_c1 0
theorem d_Switch_moveAll_43 : decode (jm_cod M_Switch_moveAll) 43 = .ok (.invokevirtual 164, 3) := dt_Switch_moveAll_c1 1
theorem d_Switch_moveAll_46 : decode (jm_cod M_Switch_moveAll) 46 = .ok (.iinc 1 1, 3) := dt_Switch_moveAll_c1 2
theorem d_Switch_moveAll_49 : decode (jm_cod M_Switch_moveAll) 49 = .ok (.goto (-21), 3) := dt_Switch_moveAll_c1 3
theorem d_Switch_moveAll_52 : decode (jm_cod M_Switch_moveAll) 52 = .ok (.iconst 0, 1) := dt_Switch_moveAll_c1 4
theorem d_Switch_moveAll_53 : decode (jm_cod M_Switch_moveAll) 53 = .ok (.istore_n 1, 1) := dt_Switch_moveAll_c1 5
theorem d_Switch_moveAll_54 : decode (jm_cod M_Switch_moveAll) 54 = .ok (.iload_n 1, 1) := dt_Switch_moveAll_c1 6
theorem d_Switch_moveAll_55 : decode (jm_cod M_Switch_moveAll) 55 = .ok (.aload_n 0, 1) := dt_Switch_moveAll_c1 7
theorem d_Switch_moveAll_56 : decode (jm_cod M_Switch_moveAll) 56 = .ok (.getfield 15, 3) := dt_Switch_moveAll_c1 8
theorem d_Switch_moveAll_59 : decode (jm_cod M_Switch_moveAll) 59 = .ok (.if_icmp .ge 14, 3) := dt_Switch_moveAll_c1 9
theorem d_Switch_moveAll_62 : decode (jm_cod M_Switch_moveAll) 62 = .ok (.aload_n 0, 1) := dt_Switch_moveAll_c1 10
theorem d_Switch_moveAll_63 : decode (jm_cod M_Switch_moveAll) 63 = .ok (.iload_n 1, 1) := dt_Switch_moveAll_c1 11
theorem d_Switch_moveAll_64 : decode (jm_cod M_Switch_moveAll) 64 = .ok (.invokevirtual 168, 3) := dt_Switch_moveAll_c1 12
theorem d_Switch_moveAll_67 : decode (jm_cod M_Switch_moveAll) 67 = .ok (.iinc 1 1, 3) := dt_Switch_moveAll_c1 13
theorem d_Switch_moveAll_70 : decode (jm_cod M_Switch_moveAll) 70 = .ok (.goto (-16), 3) := dt_Switch_moveAll_c1 14
theorem d_Switch_moveAll_73 : decode (jm_cod M_Switch_moveAll) 73 = .ok (.aload_n 0, 1) := dt_Switch_moveAll_c1 15
theorem d_Switch_moveAll_74 : decode (jm_cod M_Switch_moveAll) 74 = .ok (.invokevirtual 171, 3) := dt_Switch_moveAll_c1 16
theorem d_Switch_moveAll_77 : decode (jm_cod M_Switch_moveAll) 77 = .ok (.aload_n 0, 1) := dt_Switch_moveAll_c1 17
theorem d_Switch_moveAll_78 : decode (jm_cod M_Switch_moveAll) 78 = .ok (.invokevirtual 174, 3) := dt_Switch_moveAll_c1 18
theorem d_Switch_moveAll_81 : decode (jm_cod M_Switch_moveAll) 81 = .ok (.iconst 0, 1) := dt_Switch_moveAll_c1 19
theorem d_Switch_moveAll_82 : decode (jm_cod M_Switch_moveAll) 82 = .ok (.istore_n 1, 1) := dt_Switch_moveAll_c1 20
theorem d_Switch_moveAll_83 : decode (jm_cod M_Switch_moveAll) 83 = .ok (.iload_n 1, 1) := dt_Switch_moveAll_c1 21
theorem d_Switch_moveAll_84 : decode (jm_cod M_Switch_moveAll) 84 = .ok (.aload_n 0, 1) := dt_Switch_moveAll_c1 22
theorem d_Switch_moveAll_85 : decode (jm_cod M_Switch_moveAll) 85 = .ok (.getfield 15, 3) := dt_Switch_moveAll_c1 23
def tab_Switch_moveAll_c2 : List (Nat × Instr × Nat) := [(88, .if_icmp .ge 14, 3), (91, .aload_n 0, 1), (92, .iload_n 1, 1), (93, .invokevirtual 177, 3), (96, .iinc 1 1, 3), (99, .goto (-16), 3), (102, .iconst 0, 1), (103, .istore_n 1, 1), (104, .iload_n 1, 1), (105, .aload_n 0, 1), (106, .getfield 15, 3), (109, .if_icmp .ge 14, 3), (112, .aload_n 0, 1), (113, .iload_n 1, 1), (114, .invokevirtual 180, 3), (117, .iinc 1 1, 3), (120, .goto (-16), 3), (123, .return_, 1)]
theorem dt_Switch_moveAll_c2 (i : Nat) : decode (jm_cod M_Switch_moveAll) (tab_Switch_moveAll_c2.getD i (88, .if_icmp .ge 14, 3)).1 = .ok ((tab_Switch_moveAll_c2.getD i (88, .if_icmp .ge 14, 3)).2.1, (tab_Switch_moveAll_c2.getD i (88, .if_icmp .ge 14, 3)).2.2) := j_tab (by decide +kernel) i
theorem d_Switch_moveAll_88 : decode (jm_cod M_Switch_moveAll) 88 = .ok (.if_icmp .ge 14, 3) := dt_Switch_moveAll_c2 0
theorem d_Switch_moveAll_91 : decode (jm_cod M_Switch_moveAll) 91 = .ok (.aload_n 0, 1) := dt_Switch_moveAll_c2 1
theorem d_Switch_moveAll_92 : decode (jm_cod M_Switch_moveAll) 92 = .ok (.iload_n 1, 1) := dt_Switch_moveAll_c2 2
theorem d_Switch_moveAll_93 : decode (jm_cod M_Switch_moveAll) 93 = .ok (.invokevirtual 177, 3) := dt_Switch_moveAll_c2 3
theorem d_Switch_moveAll_96 : decode (jm_cod M_Switch_moveAll) 96 = .ok (.iinc 1 1, 3) := dt_Switch_moveAll_c2 4
theorem d_Switch_moveAll_99 : decode (jm_cod M_Switch_moveAll) 99 = .ok (.goto (-16), 3) := dt_Switch_moveAll_c2 5
theorem d_Switch_moveAll_102 : decode (jm_cod M_Switch_moveAll) 102 = .ok (.iconst 0, 1) := dt_Switch_moveAll_c2 6
theorem d_Switch_moveAll_103 : decode (jm_cod M_Switch_moveAll) 103 = .ok (.istore_n 1, 1) := dt_Switch_moveAll_c2 7
theorem d_Switch_moveAll_104 : decode (jm_cod M_Switch_moveAll) 104 = .ok (.iload_n 1, 1) := dt_Switch_moveAll_c2 8
theorem d_Switch_moveAll_105 : decode (jm_cod M_Switch_moveAll) 105 = .ok (.aload_n 0, 1) := dt_Switch_moveAll_c2 9
theorem d_Switch_moveAll_106 : decode (jm_cod M_Switch_moveAll) 106 = .ok (.getfield 15, 3) := dt_Switch_moveAll_c2 10
theorem d_Switch_moveAll_109 : decode (jm_cod M_Switch_moveAll) 109 = .ok (.if_icmp .ge 14, 3) := dt_Switch_moveAll_c2 11
theorem d_Switch_moveAll_112 : decode (jm_cod M_Switch_moveAll) 112 = .ok (.aload_n 0, 1) := dt_Switch_moveAll_c2 12
theorem d_Switch_moveAll_113 : decode (jm_cod M_Switch_moveAll) 113 = .ok (.iload_n 1, 1) := dt_Switch_moveAll_c2 13
theorem d_Switch_moveAll_114 : decode (jm_cod M_Switch_moveAll) 114 = .ok (.invokevirtual 180, 3) := dt_Switch_moveAll_c2 14
theorem d_Switch_moveAll_117 : decode (jm_cod M_Switch_moveAll) 117 = .ok (.iinc 1 1, 3) := dt_Switch_moveAll_c2 15
theorem d_Switch_moveAll_120 : decode (jm_cod M_Switch_moveAll) 120 = .ok (.goto (-16), 3) := dt_Switch_moveAll_c2 16
theorem d_Switch_moveAll_123 : decode (jm_cod M_Switch_moveAll) 123 = .ok (.return_, 1) := dt_Switch_moveAll_c2 17
def tab_Switch_moveAddress_c0 : List (Nat × Instr × Nat) := [(0, .aload_n 0, 1), (1, .iload_n 1, 1), (2, .iload_n 2, 1), (3, .invokevirtual 119, 3), (6, .astore 4, 2), (8, .aload 4, 2), (10, .invokevirtual 127, 3), (13, .ifCond .eq 15, 3), (16, .aload_n 0, 1), (17, .iload_n 1, 1), (18, .iload_n 2, 1), (19, .aload_n 3, 1), (20, .iload_n 1, 1), (21, .iaload, 1), (22, .invokevirtual 183, 3), (25, .goto 4, 3), (28, .iconst (-1), 1), (29, .istore 5, 2), (31, .iload 5, 2), (33, .iconst (-1), 1), (34, .if_icmp .ne 4, 3), (37, .return_, 1), (38, .aload_n 0, 1), (39, .iload 5, 2)]
theorem dt_Switch_moveAddress_c0 (i : Nat) : decode (jm_cod M_Switch_moveAddress) (tab_Switch_moveAddress_c0.getD i (0, .aload_n 0, 1)).1 = .ok ((tab_Switch_moveAddress_c0.getD i (0, .aload_n 0, 1)).2.1, (tab_Switch_moveAddress_c0.getD i (0, .aload_n 0, 1)).2.2) := j_tab (by decide +kernel) i
theorem d_Switch_moveAddress_0 : decode (jm_cod M_Switch_moveAddress) 0 = .ok (.aload_n 0, 1) := dt_Switch_moveAddress_c0 0
theorem d_Switch_moveAddress_1 : decode (jm_cod M_Switch_moveAddress) 1 = .ok (.iload_n 1, 1) := dt_Switch_moveAddress_c0 1
theorem d_Switch_moveAddress_2 : decode (jm_cod M_Switch_moveAddress) 2 = .ok (.iload_n 2, 1) := dt_Switch_moveAddress_c0 2
theorem d_Switch_moveAddress_3 : decode (jm_cod M_Switch_moveAddress) 3 = .ok (.invokevirtual 119, 3) := dt_Switch_moveAddress_c0 3
theorem d_Switch_moveAddress_6 : decode (jm_cod M_Switch_moveAddress) 6 = .ok (.astore 4, 2) := dt_Switch_moveAddress_c0 4
theorem d_Switch_moveAddress_8 : decode (jm_cod M_Switch_moveAddress) 8 = .ok (.aload 4, 2) := dt_Switch_moveAddress_c0 5
theorem d_Switch_moveAddress_10 : decode (jm_cod M_Switch_moveAddress) 10 = .ok (.invokevirtual 127, 3) := dt_Switch_moveAddress_c0 6
theorem d_Switch_moveAddress_13 : decode (jm_cod M_Switch_moveAddress) 13 = .ok (.ifCond .eq 15, 3) := dt_Switch_moveAddress_c0 7
theorem d_Switch_moveAddress_16 : decode (jm_cod M_Switch_moveAddress) 16 = .ok (.aload_n 0, 1) := dt_Switch_moveAddress_c0 8
theorem d_Switch_moveAddress_17 : decode (jm_cod M_Switch_moveAddress) 17 = .ok (.iload_n 1, 1) := dt_Switch_moveAddress_c0 9
theorem d_Switch_moveAddress_18 : decode (jm_cod M_Switch_moveAddress) 18 = .ok (.iload_n 2, 1) := dt_Switch_moveAddress_c0 10
theorem d_Switch_moveAddress_19 : decode (jm_cod M_Switch_moveAddress) 19 = .ok (.aload_n 3, 1) := dt_Switch_moveAddress_c0 11
theorem d_Switch_moveAddress_20 : decode (jm_cod M_Switch_moveAddress) 20 = .ok (.iload_n 1, 1) := dt_Switch_moveAddress_c0 12
theorem d_Switch_moveAddress_21 : decode (jm_cod M_Switch_moveAddress) 21 = .ok (.iaload, 1) := dt_Switch_moveAddress_c0 13
theorem d_Switch_moveAddress_22 : decode (jm_cod M_Switch_moveAddress) 22 = .ok (.invokevirtual 183, 3) := dt_Switch_moveAddress_c0 14
theorem d_Switch_moveAddress_25 : decode (jm_cod M_Switch_moveAddress) 25 = .ok (.goto 4, 3) := dt_Switch_moveAddress_c0 15
theorem d_Switch_moveAddress_28 : decode (jm_cod M_Switch_moveAddress) 28 = .ok (.iconst (-1), 1) := dt_Switch_moveAddress_c0 16
theorem d_Switch_moveAddress_29 : decode (jm_cod M_Switch_moveAddress) 29 = .ok (.istore 5, 2) := dt_Switch_moveAddress_c0 17
theorem d_Switch_moveAddress_31 : decode (jm_cod M_Switch_moveAddress) 31 = .ok (.iload 5, 2) := dt_Switch_moveAddress_c0 18
theorem d_Switch_moveAddress_33 : decode (jm_cod M_Switch_moveAddress) 33 = .ok (.iconst (-1), 1) := dt_Switch_moveAddress_c0 19
theorem d_Switch_moveAddress_34 : decode (jm_cod M_Switch_moveAddress) 34 = .ok (.if_icmp .ne 4, 3) := dt_Switch_moveAddress_c0 20
theorem d_Switch_moveAddress_37 : decode (jm_cod M_Switch_moveAddress) 37 = .ok (.return_, 1) := dt_Switch_moveAddress_c0 21
theorem d_Switch_moveAddress_38 : decode (jm_cod M_Switch_moveAddress) 38 = .ok (.aload_n 0, 1) := dt_Switch_moveAddress_c0 22
theorem d_Switch_moveAddress_39 : decode (jm_cod M_Switch_moveAddress) 39 = .ok (.iload 5, 2) := dt_Switch_moveAddress_c0 23
def tab_Switch_moveAddress_c1 : List (Nat × Instr × Nat) := [(41, .iload_n 2, 1), (42, .invokevirtual 107, 3), (45, .astore 6, 2), (47, .aload 6, 2), (49, .invokevirtual 134, 3), (52, .lstore 7, 2), (54, .iload_n 2, 1), (55, .ifCond .ne 11, 3), (58, .lload 7, 2), (60, .invokestatic 187, 3), (63, .goto 4, 3), (66, .iconst 0, 1), (67, .istore 9, 2), (69, .aload_n 0, 1), (70, .iload 5, 2), (72, .iload_n 2, 1), (73, .invokevirtual 99, 3), (76, .lload 7, 2), (78, .invokestatic 190, 3), (81, .iload_n 1, 1), (82, .iload 9, 2), (84, .aload_n 0, 1), (85, .getfield 90, 3), (88, .invokevirtual 193, 3)]
theorem dt_Switch_moveAddress_c1 (i : Nat) : decode (jm_cod M_Switch_moveAddress) (tab_Switch_moveAddress_c1.getD i (41, .iload_n 2, 1)).1 = .ok ((tab_Switch_moveAddress_c1.getD i (41, .iload_n 2, 1)).2.1, (tab_Switch_moveAddress_c1.getD i (41, .iload_n 2, 1)).2.2) := j_tab (by decide +kernel) i
theorem d_Switch_moveAddress_41 : decode (jm_cod M_Switch_moveAddress) 41 = .ok (.iload_n 2, 1) := dt_Switch_moveAddress_c1 0
theorem d_Switch_moveAddress_42 : decode (jm_cod M_Switch_moveAddress) 42 = .ok (.invokevirtual 107, 3) := dt_Switch_moveAddress_c1 1
theorem d_Switch_moveAddress_45 : decode (jm_cod M_Switch_moveAddress) 45 = .ok (.astore 6, 2) := dt_Switch_moveAddress_c1 2
theorem d_Switch_moveAddress_47 : decode (jm_cod M_Switch_moveAddress) 47 = .ok (.aload 6, 2) := dt_Switch_moveAddress_c1 3
theorem d_Switch_moveAddress_49 : decode (jm_cod M_Switch_moveAddress) 49 = .ok (.invokevirtual 134, 3) := dt_Switch_moveAddress_c1 4
theorem d_Switch_moveAddress_52 : decode (jm_cod M_Switch_moveAddress) 52 = .ok (.lstore 7, 2) := dt_Switch_moveAddress_c1 5
theorem d_Switch_moveAddress_54 : decode (jm_cod M_Switch_moveAddress) 54 = .ok (.iload_n 2, 1) := dt_Switch_moveAddress_c1 6
theorem d_Switch_moveAddress_55 : decode (jm_cod M_Switch_moveAddress) 55 = .ok (.ifCond .ne 11, 3) := dt_Switch_moveAddress_c1 7
theorem d_Switch_moveAddress_58 : decode (jm_cod M_Switch_moveAddress) 58 = .ok (.lload 7, 2) := dt_Switch_moveAddress_c1 8
theorem d_Switch_moveAddress_60 : decode (jm_cod M_Switch_moveAddress) 60 = .ok (.invokestatic 187, 3) := dt_Switch_moveAddress_c1 9
theorem d_Switch_moveAddress_63 : decode (jm_cod M_Switch_moveAddress) 63 = .ok (.goto 4, 3) := dt_Switch_moveAddress_c1 10
theorem d_Switch_moveAddress_66 : decode (jm_cod M_Switch_moveAddress) 66 = .ok (.iconst 0, 1) := dt_Switch_moveAddress_c1 11
theorem d_Switch_moveAddress_67 : decode (jm_cod M_Switch_moveAddress) 67 = .ok (.istore 9, 2) := dt_Switch_moveAddress_c1 12
theorem d_Switch_moveAddress_69 : decode (jm_cod M_Switch_moveAddress) 69 = .ok (.aload_n 0, 1) := dt_Switch_moveAddress_c1 13
theorem d_Switch_moveAddress_70 : decode (jm_cod M_Switch_moveAddress) 70 = .ok (.iload 5, 2) := dt_Switch_moveAddress_c1 14
theorem d_Switch_moveAddress_72 : decode (jm_cod M_Switch_moveAddress) 72 = .ok (.iload_n 2, 1) := dt_Switch_moveAddress_c1 15
theorem d_Switch_moveAddress_73 : decode (jm_cod M_Switch_moveAddress) 73 = .ok (.invokevirtual 99, 3) := dt_Switch_moveAddress_c1 16
theorem d_Switch_moveAddress_76 : decode (jm_cod M_Switch_moveAddress) 76 = .ok (.lload 7, 2) := dt_Switch_moveAddress_c1 17
theorem d_Switch_moveAddress_78 : decode (jm_cod M_Switch_moveAddress) 78 = .ok (.invokestatic 190, 3) := dt_Switch_moveAddress_c1 18
theorem d_Switch_moveAddress_81 : decode (jm_cod M_Switch_moveAddress) 81 = .ok (.iload_n 1, 1) := dt_Switch_moveAddress_c1 19
theorem d_Switch_moveAddress_82 : decode (jm_cod M_Switch_moveAddress) 82 = .ok (.iload 9, 2) := dt_Switch_moveAddress_c1 20
theorem d_Switch_moveAddress_84 : decode (jm_cod M_Switch_moveAddress) 84 = .ok (.aload_n 0, 1) := dt_Switch_moveAddress_c1 21
theorem d_Switch_moveAddress_85 : decode (jm_cod M_Switch_moveAddress) 85 = .ok (.getfield 90, 3) := dt_Switch_moveAddress_c1 22
theorem d_Switch_moveAddress_88 : decode (jm_cod M_Switch_moveAddress) 88 = .ok (.invokevirtual 193, 3) := dt_Switch_moveAddress_c1 23
def tab_Switch_moveAddress_c2 : List (Nat × Instr × Nat) := [(91, .aload_n 0, 1), (92, .dup, 1), (93, .getfield 90, 3), (96, .iconst 1, 1), (97, .iadd, 1), (98, .putfield 90, 3), (101, .aload 4, 2), (103, .lload 7, 2), (105, .ldc2_w 197, 3), (108, .iload 5, 2), (110, .i2l, 1), (111, .lmul, 1), (112, .ladd, 1), (113, .iconst 0, 1), (114, .iconst 0, 1), (115, .invokevirtual 157, 3), (118, .aload 6, 2), (120, .invokevirtual 161, 3), (123, .aload_n 3, 1), (124, .iload_n 1, 1), (125, .iload 5, 2), (127, .iastore, 1), (128, .return_, 1)]
theorem dt_Switch_moveAddress_c2 (i : Nat) : decode (jm_cod M_Switch_moveAddress) (tab_Switch_moveAddress_c2.getD i (91, .aload_n 0, 1)).1 = .ok ((tab_Switch_moveAddress_c2.getD i (91, .aload_n 0, 1)).2.1, (tab_Switch_moveAddress_c2.getD i (91, .aload_n 0, 1)).2.2) := j_tab (by decide +kernel) i
theorem d_Switch_moveAddress_91 : decode (jm_cod M_Switch_moveAddress) 91 = .ok (.aload_n 0, 1) := dt_Switch_moveAddress_c2 0
theorem d_Switch_moveAddress_92 : decode (jm_cod M_Switch_moveAddress) 92 = .ok (.dup, 1) := dt_Switch_moveAddress_c2 1
theorem d_Switch_moveAddress_93 : decode (jm_cod M_Switch_moveAddress) 93 = .ok (.getfield 90, 3) := dt_Switch_moveAddress_c2 2
theorem d_Switch_moveAddress_96 : decode (jm_cod M_Switch_moveAddress) 96 = .ok (.iconst 1, 1) := dt_Switch_moveAddress_c2 3
theorem d_Switch_moveAddress_97 : decode (jm_cod M_Switch_moveAddress) 97 = .ok (.iadd, 1) := dt_Switch_moveAddress_c2 4
theorem d_Switch_moveAddress_98 : decode (jm_cod M_Switch_moveAddress) 98 = .ok (.putfield 90, 3) := dt_Switch_moveAddress_c2 5
theorem d_Switch_moveAddress_101 : decode (jm_cod M_Switch_moveAddress) 101 = .ok (.aload 4, 2) := dt_Switch_moveAddress_c2 6
theorem d_Switch_moveAddress_103 : decode (jm_cod M_Switch_moveAddress) 103 = .ok (.lload 7, 2) := dt_Switch_moveAddress_c2 7
theorem d_Switch_moveAddress_105 : decode (jm_cod M_Switch_moveAddress) 105 = .ok (.ldc2_w 197, 3) := dt_Switch_moveAddress_c2 8
theorem d_Switch_moveAddress_108 : decode (jm_cod M_Switch_moveAddress) 108 = .ok (.iload 5, 2) := dt_Switch_moveAddress_c2 9
theorem d_Switch_moveAddress_110 : decode (jm_cod M_Switch_moveAddress) 110 = .ok (.i2l, 1) := dt_Switch_moveAddress_c2 10
theorem d_Switch_moveAddress_111 : decode (jm_cod M_Switch_moveAddress) 111 = .ok (.lmul, 1) := dt_Switch_moveAddress_c2 11
theorem d_Switch_moveAddress_112 : decode (jm_cod M_Switch_moveAddress) 112 = .ok (.ladd, 1) := dt_Switch_moveAddress_c2 12
theorem d_Switch_moveAddress_113 : decode (jm_cod M_Switch_moveAddress) 113 = .ok (.iconst 0, 1) := dt_Switch_moveAddress_c2 13
theorem d_Switch_moveAddress_114 : decode (jm_cod M_Switch_moveAddress) 114 = .ok (.iconst 0, 1) := dt_Switch_moveAddress_c2 14
theorem d_Switch_moveAddress_115 : decode (jm_cod M_Switch_moveAddress) 115 = .ok (.invokevirtual 157, 3) := dt_Switch_moveAddress_c2 15
theorem d_Switch_moveAddress_118 : decode (jm_cod M_Switch_moveAddress) 118 = .ok (.aload 6, 2) := dt_Switch_moveAddress_c2 16
theorem d_Switch_moveAddress_120 : decode (jm_cod M_Switch_moveAddress) 120 = .ok (.invokevirtual 161, 3) := dt_Switch_moveAddress_c2 17
theorem d_Switch_moveAddress_123 : decode (jm_cod M_Switch_moveAddress) 123 = .ok (.aload_n 3, 1) := dt_Switch_moveAddress_c2 18
theorem d_Switch_moveAddress_124 : decode (jm_cod M_Switch_moveAddress) 124 = .ok (.iload_n 1, 1) := dt_Switch_moveAddress_c2 19
theorem d_Switch_moveAddress_125 : decode (jm_cod M_Switch_moveAddress) 125 = .ok (.iload 5, 2) := dt_Switch_moveAddress_c2 20
theorem d_Switch_moveAddress_127 : decode (jm_cod M_Switch_moveAddress) 127 = .ok (.iastore, 1) := dt_Switch_moveAddress_c2 21
theorem d_Switch_moveAddress_128 : decode (jm_cod M_Switch_moveAddress) 128 = .ok (.return_, 1) := dt_Switch_moveAddress_c2 22
def tab_Switch_arbitrate_c0 : List (Nat × Instr × Nat) := [(0, .aload_n 0, 1), (1, .getfield 80, 3), (4, .iconst 1, 1), (5, .if_icmp .eq 11, 3), (8, .aload_n 0, 1), (9, .getfield 80, 3), (12, .iconst 3, 1), (13, .if_icmp .ne 9, 3), (16, .iload_n 3, 1), (17, .iconst 1, 1), (18, .iadd, 1), (19, .goto 4, 3), (22, .iconst 0, 1), (23, .istore 4, 2), (25, .iconst (-1), 1), (26, .istore 5, 2), (28, .iconst 0, 1), (29, .istore 6, 2), (31, .iload 6, 2), (33, .aload_n 0, 1), (34, .getfield 15, 3), (37, .if_icmp .ge 54, 3), (40, .iload 4, 2), (42, .iload 6, 2)]
theorem dt_Switch_arbitrate_c0 (i : Nat) : decode (jm_cod M_Switch_arbitrate) (tab_Switch_arbitrate_c0.getD i (0, .aload_n 0, 1)).1 = .ok ((tab_Switch_arbitrate_c0.getD i (0, .aload_n 0, 1)).2.1, (tab_Switch_arbitrate_c0.getD i (0, .aload_n 0, 1)).2.2) := j_tab (by decide +kernel) i
theorem d_Switch_arbitrate_0 : decode (jm_cod M_Switch_arbitrate) 0 = .ok (.aload_n 0, 1) := dt_Switch_arbitrate_c0 0
theorem d_Switch_arbitrate_1 : decode (jm_cod M_Switch_arbitrate) 1 = .ok (.getfield 80, 3) := dt_Switch_arbitrate_c0 1
theorem d_Switch_arbitrate_4 : decode (jm_cod M_Switch_arbitrate) 4 = .ok (.iconst 1, 1) := dt_Switch_arbitrate_c0 2
theorem d_Switch_arbitrate_5 : decode (jm_cod M_Switch_arbitrate) 5 = .ok (.if_icmp .eq 11, 3) := dt_Switch_arbitrate_c0 3
theorem d_Switch_arbitrate_8 : decode (jm_cod M_Switch_arbitrate) 8 = .ok (.aload_n 0, 1) := dt_Switch_arbitrate_c0 4
theorem d_Switch_arbitrate_9 : decode (jm_cod M_Switch_arbitrate) 9 = .ok (.getfield 80, 3) := dt_Switch_arbitrate_c0 5
theorem d_Switch_arbitrate_12 : decode (jm_cod M_Switch_arbitrate) 12 = .ok (.iconst 3, 1) := dt_Switch_arbitrate_c0 6
theorem d_Switch_arbitrate_13 : decode (jm_cod M_Switch_arbitrate) 13 = .ok (.if_icmp .ne 9, 3) := dt_Switch_arbitrate_c0 7
theorem d_Switch_arbitrate_16 : decode (jm_cod M_Switch_arbitrate) 16 = .ok (.iload_n 3, 1) := dt_Switch_arbitrate_c0 8
theorem d_Switch_arbitrate_17 : decode (jm_cod M_Switch_arbitrate) 17 = .ok (.iconst 1, 1) := dt_Switch_arbitrate_c0 9
theorem d_Switch_arbitrate_18 : decode (jm_cod M_Switch_arbitrate) 18 = .ok (.iadd, 1) := dt_Switch_arbitrate_c0 10
theorem d_Switch_arbitrate_19 : decode (jm_cod M_Switch_arbitrate) 19 = .ok (.goto 4, 3) := dt_Switch_arbitrate_c0 11
theorem d_Switch_arbitrate_22 : decode (jm_cod M_Switch_arbitrate) 22 = .ok (.iconst 0, 1) := dt_Switch_arbitrate_c0 12
theorem d_Switch_arbitrate_23 : decode (jm_cod M_Switch_arbitrate) 23 = .ok (.istore 4, 2) := dt_Switch_arbitrate_c0 13
theorem d_Switch_arbitrate_25 : decode (jm_cod M_Switch_arbitrate) 25 = .ok (.iconst (-1), 1) := dt_Switch_arbitrate_c0 14
theorem d_Switch_arbitrate_26 : decode (jm_cod M_Switch_arbitrate) 26 = .ok (.istore 5, 2) := dt_Switch_arbitrate_c0 15
theorem d_Switch_arbitrate_28 : decode (jm_cod M_Switch_arbitrate) 28 = .ok (.iconst 0, 1) := dt_Switch_arbitrate_c0 16
theorem d_Switch_arbitrate_29 : decode (jm_cod M_Switch_arbitrate) 29 = .ok (.istore 6, 2) := dt_Switch_arbitrate_c0 17
theorem d_Switch_arbitrate_31 : decode (jm_cod M_Switch_arbitrate) 31 = .ok (.iload 6, 2) := dt_Switch_arbitrate_c0 18
theorem d_Switch_arbitrate_33 : decode (jm_cod M_Switch_arbitrate) 33 = .ok (.aload_n 0, 1) := dt_Switch_arbitrate_c0 19
theorem d_Switch_arbitrate_34 : decode (jm_cod M_Switch_arbitrate) 34 = .ok (.getfield 15, 3) := dt_Switch_arbitrate_c0 20
theorem d_Switch_arbitrate_37 : decode (jm_cod M_Switch_arbitrate) 37 = .ok (.if_icmp .ge 54, 3) := dt_Switch_arbitrate_c0 21
theorem d_Switch_arbitrate_40 : decode (jm_cod M_Switch_arbitrate) 40 = .ok (.iload 4, 2) := dt_Switch_arbitrate_c0 22
theorem d_Switch_arbitrate_42 : decode (jm_cod M_Switch_arbitrate) 42 = .ok (.iload 6, 2) := dt_Switch_arbitrate_c0 23
def tab_Switch_arbitrate_c1 : List (Nat × Instr × Nat) := [(44, .iadd, 1), (45, .aload_n 0, 1), (46, .getfield 15, 3), (49, .irem, 1), (50, .istore 7, 2), (52, .aload_n 0, 1), (53, .iload 7, 2), (55, .iload_n 1, 1), (56, .iload_n 2, 1), (57, .invokevirtual 199, 3), (60, .ifCond .eq 25, 3), (63, .iload 5, 2), (65, .iconst (-1), 1), (66, .if_icmp .eq 15, 3), (69, .aload_n 0, 1), (70, .iload 7, 2), (72, .iload 5, 2), (74, .iload_n 2, 1), (75, .invokevirtual 203, 3), (78, .ifCond .eq 7, 3), (81, .iload 7, 2), (83, .istore 5, 2), (85, .iinc 6 1, 3), (88, .goto (-57), 3)]
theorem dt_Switch_arbitrate_c1 (i : Nat) : decode (jm_cod M_Switch_arbitrate) (tab_Switch_arbitrate_c1.getD i (44, .iadd, 1)).1 = .ok ((tab_Switch_arbitrate_c1.getD i (44, .iadd, 1)).2.1, (tab_Switch_arbitrate_c1.getD i (44, .iadd, 1)).2.2) := j_tab (by decide +kernel) i
theorem d_Switch_arbitrate_44 : decode (jm_cod M_Switch_arbitrate) 44 = .ok (.iadd, 1) := dt_Switch_arbitrate_c1 0
theorem d_Switch_arbitrate_45 : decode (jm_cod M_Switch_arbitrate) 45 = .ok (.aload_n 0, 1) := dt_Switch_arbitrate_c1 1
theorem d_Switch_arbitrate_46 : decode (jm_cod M_Switch_arbitrate) 46 = .ok (.getfield 15, 3) := dt_Switch_arbitrate_c1 2
theorem d_Switch_arbitrate_49 : decode (jm_cod M_Switch_arbitrate) 49 = .ok (.irem, 1) := dt_Switch_arbitrate_c1 3
theorem d_Switch_arbitrate_50 : decode (jm_cod M_Switch_arbitrate) 50 = .ok (.istore 7, 2) := dt_Switch_arbitrate_c1 4
theorem d_Switch_arbitrate_52 : decode (jm_cod M_Switch_arbitrate) 52 = .ok (.aload_n 0, 1) := dt_Switch_arbitrate_c1 5
theorem d_Switch_arbitrate_53 : decode (jm_cod M_Switch_arbitrate) 53 = .ok (.iload 7, 2) := dt_Switch_arbitrate_c1 6
theorem d_Switch_arbitrate_55 : decode (jm_cod M_Switch_arbitrate) 55 = .ok (.iload_n 1, 1) := dt_Switch_arbitrate_c1 7
theorem d_Switch_arbitrate_56 : decode (jm_cod M_Switch_arbitrate) 56 = .ok (.iload_n 2, 1) := dt_Switch_arbitrate_c1 8
theorem d_Switch_arbitrate_57 : decode (jm_cod M_Switch_arbitrate) 57 = .ok (.invokevirtual 199, 3) := dt_Switch_arbitrate_c1 9
theorem d_Switch_arbitrate_60 : decode (jm_cod M_Switch_arbitrate) 60 = .ok (.ifCond .eq 25, 3) := dt_Switch_arbitrate_c1 10
theorem d_Switch_arbitrate_63 : decode (jm_cod M_Switch_arbitrate) 63 = .ok (.iload 5, 2) := dt_Switch_arbitrate_c1 11
theorem d_Switch_arbitrate_65 : decode (jm_cod M_Switch_arbitrate) 65 = .ok (.iconst (-1), 1) := dt_Switch_arbitrate_c1 12
theorem d_Switch_arbitrate_66 : decode (jm_cod M_Switch_arbitrate) 66 = .ok (.if_icmp .eq 15, 3) := dt_Switch_arbitrate_c1 13
theorem d_Switch_arbitrate_69 : decode (jm_cod M_Switch_arbitrate) 69 = .ok (.aload_n 0, 1) := dt_Switch_arbitrate_c1 14
theorem d_Switch_arbitrate_70 : decode (jm_cod M_Switch_arbitrate) 70 = .ok (.iload 7, 2) := dt_Switch_arbitrate_c1 15
theorem d_Switch_arbitrate_72 : decode (jm_cod M_Switch_arbitrate) 72 = .ok (.iload 5, 2) := dt_Switch_arbitrate_c1 16
theorem d_Switch_arbitrate_74 : decode (jm_cod M_Switch_arbitrate) 74 = .ok (.iload_n 2, 1) := dt_Switch_arbitrate_c1 17
theorem d_Switch_arbitrate_75 : decode (jm_cod M_Switch_arbitrate) 75 = .ok (.invokevirtual 203, 3) := dt_Switch_arbitrate_c1 18
theorem d_Switch_arbitrate_78 : decode (jm_cod M_Switch_arbitrate) 78 = .ok (.ifCond .eq 7, 3) := dt_Switch_arbitrate_c1 19
theorem d_Switch_arbitrate_81 : decode (jm_cod M_Switch_arbitrate) 81 = .ok (.iload 7, 2) := dt_Switch_arbitrate_c1 20
theorem d_Switch_arbitrate_83 : decode (jm_cod M_Switch_arbitrate) 83 = .ok (.istore 5, 2) := dt_Switch_arbitrate_c1 21
theorem d_Switch_arbitrate_85 : decode (jm_cod M_Switch_arbitrate) 85 = .ok (.iinc 6 1, 3) := dt_Switch_arbitrate_c1 22
theorem d_Switch_arbitrate_88 : decode (jm_cod M_Switch_arbitrate) 88 = .ok (.goto (-57), 3) := dt_Switch_arbitrate_c1 23
def tab_Switch_arbitrate_c2 : List (Nat × Instr × Nat) := [(91, .iload 5, 2), (93, .ireturn, 1)]
theorem dt_Switch_arbitrate_c2 (i : Nat) : decode (jm_cod M_Switch_arbitrate) (tab_Switch_arbitrate_c2.getD i (91, .iload 5, 2)).1 = .ok ((tab_Switch_arbitrate_c2.getD i (91, .iload 5, 2)).2.1, (tab_Switch_arbitrate_c2.getD i (91, .iload 5, 2)).2.2) := j_tab (by decide +kernel) i
theorem d_Switch_arbitrate_91 : decode (jm_cod M_Switch_arbitrate) 91 = .ok (.iload 5, 2) := dt_Switch_arbitrate_c2 0
theorem d_Switch_arbitrate_93 : decode (jm_cod M_Switch_arbitrate) 93 = .ok (.ireturn, 1) := dt_Switch_arbitrate_c2 1
def tab_Switch_may_c0 : List (Nat × Instr × Nat) := [(0, .aload_n 0, 1), (1, .iload_n 1, 1), (2, .iload_n 3, 1), (3, .invokevirtual 107, 3), (6, .astore 4, 2), (8, .aload 4, 2), (10, .invokevirtual 131, 3), (13, .ifCond .ne 5, 3), (16, .iconst 0, 1), (17, .ireturn, 1), (18, .aload 4, 2), (20, .invokevirtual 134, 3), (23, .lstore 5, 2), (25, .aload_n 0, 1), (26, .lload 5, 2), (28, .invokevirtual 206, 3), (31, .iload_n 2, 1), (32, .if_icmp .ne 29, 3), (35, .aload_n 0, 1), (36, .iload_n 1, 1), (37, .iload_n 3, 1), (38, .invokevirtual 99, 3), (41, .lload 5, 2), (43, .invokestatic 190, 3)]
theorem dt_Switch_may_c0 (i : Nat) : decode (jm_cod M_Switch_may) (tab_Switch_may_c0.getD i (0, .aload_n 0, 1)).1 = .ok ((tab_Switch_may_c0.getD i (0, .aload_n 0, 1)).2.1, (tab_Switch_may_c0.getD i (0, .aload_n 0, 1)).2.2) := j_tab (by decide +kernel) i
theorem d_Switch_may_0 : decode (jm_cod M_Switch_may) 0 = .ok (.aload_n 0, 1) := dt_Switch_may_c0 0
theorem d_Switch_may_1 : decode (jm_cod M_Switch_may) 1 = .ok (.iload_n 1, 1) := dt_Switch_may_c0 1
theorem d_Switch_may_2 : decode (jm_cod M_Switch_may) 2 = .ok (.iload_n 3, 1) := dt_Switch_may_c0 2
theorem d_Switch_may_3 : decode (jm_cod M_Switch_may) 3 = .ok (.invokevirtual 107, 3) := dt_Switch_may_c0 3
theorem d_Switch_may_6 : decode (jm_cod M_Switch_may) 6 = .ok (.astore 4, 2) := dt_Switch_may_c0 4
theorem d_Switch_may_8 : decode (jm_cod M_Switch_may) 8 = .ok (.aload 4, 2) := dt_Switch_may_c0 5
theorem d_Switch_may_10 : decode (jm_cod M_Switch_may) 10 = .ok (.invokevirtual 131, 3) := dt_Switch_may_c0 6
theorem d_Switch_may_13 : decode (jm_cod M_Switch_may) 13 = .ok (.ifCond .ne 5, 3) := dt_Switch_may_c0 7
theorem d_Switch_may_16 : decode (jm_cod M_Switch_may) 16 = .ok (.iconst 0, 1) := dt_Switch_may_c0 8
theorem d_Switch_may_17 : decode (jm_cod M_Switch_may) 17 = .ok (.ireturn, 1) := dt_Switch_may_c0 9
theorem d_Switch_may_18 : decode (jm_cod M_Switch_may) 18 = .ok (.aload 4, 2) := dt_Switch_may_c0 10
theorem d_Switch_may_20 : decode (jm_cod M_Switch_may) 20 = .ok (.invokevirtual 134, 3) := dt_Switch_may_c0 11
theorem d_Switch_may_23 : decode (jm_cod M_Switch_may) 23 = .ok (.lstore 5, 2) := dt_Switch_may_c0 12
theorem d_Switch_may_25 : decode (jm_cod M_Switch_may) 25 = .ok (.aload_n 0, 1) := dt_Switch_may_c0 13
theorem d_Switch_may_26 : decode (jm_cod M_Switch_may) 26 = .ok (.lload 5, 2) := dt_Switch_may_c0 14
theorem d_Switch_may_28 : decode (jm_cod M_Switch_may) 28 = .ok (.invokevirtual 206, 3) := dt_Switch_may_c0 15
theorem d_Switch_may_31 : decode (jm_cod M_Switch_may) 31 = .ok (.iload_n 2, 1) := dt_Switch_may_c0 16
theorem d_Switch_may_32 : decode (jm_cod M_Switch_may) 32 = .ok (.if_icmp .ne 29, 3) := dt_Switch_may_c0 17
theorem d_Switch_may_35 : decode (jm_cod M_Switch_may) 35 = .ok (.aload_n 0, 1) := dt_Switch_may_c0 18
theorem d_Switch_may_36 : decode (jm_cod M_Switch_may) 36 = .ok (.iload_n 1, 1) := dt_Switch_may_c0 19
theorem d_Switch_may_37 : decode (jm_cod M_Switch_may) 37 = .ok (.iload_n 3, 1) := dt_Switch_may_c0 20
theorem d_Switch_may_38 : decode (jm_cod M_Switch_may) 38 = .ok (.invokevirtual 99, 3) := dt_Switch_may_c0 21
theorem d_Switch_may_41 : decode (jm_cod M_Switch_may) 41 = .ok (.lload 5, 2) := dt_Switch_may_c0 22
theorem d_Switch_may_43 : decode (jm_cod M_Switch_may) 43 = .ok (.invokestatic 190, 3) := dt_Switch_may_c0 23
def tab_Switch_may_c1 : List (Nat × Instr × Nat) := [(46, .iload_n 2, 1), (47, .aload_n 0, 1), (48, .getfield 22, 3), (51, .invokevirtual 209, 3), (54, .ifCond .eq 7, 3), (57, .iconst 1, 1), (58, .goto 4, 3), (61, .iconst 0, 1), (62, .ireturn, 1)]
theorem dt_Switch_may_c1 (i : Nat) : decode (jm_cod M_Switch_may) (tab_Switch_may_c1.getD i (46, .iload_n 2, 1)).1 = .ok ((tab_Switch_may_c1.getD i (46, .iload_n 2, 1)).2.1, (tab_Switch_may_c1.getD i (46, .iload_n 2, 1)).2.2) := j_tab (by decide +kernel) i
theorem d_Switch_may_46 : decode (jm_cod M_Switch_may) 46 = .ok (.iload_n 2, 1) := dt_Switch_may_c1 0
theorem d_Switch_may_47 : decode (jm_cod M_Switch_may) 47 = .ok (.aload_n 0, 1) := dt_Switch_may_c1 1
theorem d_Switch_may_48 : decode (jm_cod M_Switch_may) 48 = .ok (.getfield 22, 3) := dt_Switch_may_c1 2
theorem d_Switch_may_51 : decode (jm_cod M_Switch_may) 51 = .ok (.invokevirtual 209, 3) := dt_Switch_may_c1 3
theorem d_Switch_may_54 : decode (jm_cod M_Switch_may) 54 = .ok (.ifCond .eq 7, 3) := dt_Switch_may_c1 4
theorem d_Switch_may_57 : decode (jm_cod M_Switch_may) 57 = .ok (.iconst 1, 1) := dt_Switch_may_c1 5
theorem d_Switch_may_58 : decode (jm_cod M_Switch_may) 58 = .ok (.goto 4, 3) := dt_Switch_may_c1 6
theorem d_Switch_may_61 : decode (jm_cod M_Switch_may) 61 = .ok (.iconst 0, 1) := dt_Switch_may_c1 7
theorem d_Switch_may_62 : decode (jm_cod M_Switch_may) 62 = .ok (.ireturn, 1) := dt_Switch_may_c1 8
def tab_Switch_targetOf_c0 : List (Nat × Instr × Nat) := [(0, .aload_n 0, 1), (1, .getfield 9, 3), (4, .lload_n 1, 1), (5, .invokestatic 93, 3), (8, .sipush 4096, 3), (11, .idiv, 1), (12, .iaload, 1), (13, .ireturn, 1)]
theorem dt_Switch_targetOf_c0 (i : Nat) : decode (jm_cod M_Switch_targetOf) (tab_Switch_targetOf_c0.getD i (0, .aload_n 0, 1)).1 = .ok ((tab_Switch_targetOf_c0.getD i (0, .aload_n 0, 1)).2.1, (tab_Switch_targetOf_c0.getD i (0, .aload_n 0, 1)).2.2) := j_tab (by decide +kernel) i
theorem d_Switch_targetOf_0 : decode (jm_cod M_Switch_targetOf) 0 = .ok (.aload_n 0, 1) := dt_Switch_targetOf_c0 0
theorem d_Switch_targetOf_1 : decode (jm_cod M_Switch_targetOf) 1 = .ok (.getfield 9, 3) := dt_Switch_targetOf_c0 1
theorem d_Switch_targetOf_4 : decode (jm_cod M_Switch_targetOf) 4 = .ok (.lload_n 1, 1) := dt_Switch_targetOf_c0 2
theorem d_Switch_targetOf_5 : decode (jm_cod M_Switch_targetOf) 5 = .ok (.invokestatic 93, 3) := dt_Switch_targetOf_c0 3
theorem d_Switch_targetOf_8 : decode (jm_cod M_Switch_targetOf) 8 = .ok (.sipush 4096, 3) := dt_Switch_targetOf_c0 4
theorem d_Switch_targetOf_11 : decode (jm_cod M_Switch_targetOf) 11 = .ok (.idiv, 1) := dt_Switch_targetOf_c0 5
theorem d_Switch_targetOf_12 : decode (jm_cod M_Switch_targetOf) 12 = .ok (.iaload, 1) := dt_Switch_targetOf_c0 6
theorem d_Switch_targetOf_13 : decode (jm_cod M_Switch_targetOf) 13 = .ok (.ireturn, 1) := dt_Switch_targetOf_c0 7
def tab_Switch_underWay_c0 : List (Nat × Instr × Nat) := [(0, .iload_n 2, 1), (1, .ifCond .ne 12, 3), (4, .aload_n 0, 1), (5, .getfield 38, 3), (8, .iload_n 1, 1), (9, .aaload, 1), (10, .goto 9, 3), (13, .aload_n 0, 1), (14, .getfield 42, 3), (17, .iload_n 1, 1), (18, .aaload, 1), (19, .areturn, 1)]
theorem dt_Switch_underWay_c0 (i : Nat) : decode (jm_cod M_Switch_underWay) (tab_Switch_underWay_c0.getD i (0, .iload_n 2, 1)).1 = .ok ((tab_Switch_underWay_c0.getD i (0, .iload_n 2, 1)).2.1, (tab_Switch_underWay_c0.getD i (0, .iload_n 2, 1)).2.2) := j_tab (by decide +kernel) i
theorem d_Switch_underWay_0 : decode (jm_cod M_Switch_underWay) 0 = .ok (.iload_n 2, 1) := dt_Switch_underWay_c0 0
theorem d_Switch_underWay_1 : decode (jm_cod M_Switch_underWay) 1 = .ok (.ifCond .ne 12, 3) := dt_Switch_underWay_c0 1
theorem d_Switch_underWay_4 : decode (jm_cod M_Switch_underWay) 4 = .ok (.aload_n 0, 1) := dt_Switch_underWay_c0 2
theorem d_Switch_underWay_5 : decode (jm_cod M_Switch_underWay) 5 = .ok (.getfield 38, 3) := dt_Switch_underWay_c0 3
theorem d_Switch_underWay_8 : decode (jm_cod M_Switch_underWay) 8 = .ok (.iload_n 1, 1) := dt_Switch_underWay_c0 4
theorem d_Switch_underWay_9 : decode (jm_cod M_Switch_underWay) 9 = .ok (.aaload, 1) := dt_Switch_underWay_c0 5
theorem d_Switch_underWay_10 : decode (jm_cod M_Switch_underWay) 10 = .ok (.goto 9, 3) := dt_Switch_underWay_c0 6
theorem d_Switch_underWay_13 : decode (jm_cod M_Switch_underWay) 13 = .ok (.aload_n 0, 1) := dt_Switch_underWay_c0 7
theorem d_Switch_underWay_14 : decode (jm_cod M_Switch_underWay) 14 = .ok (.getfield 42, 3) := dt_Switch_underWay_c0 8
theorem d_Switch_underWay_17 : decode (jm_cod M_Switch_underWay) 17 = .ok (.iload_n 1, 1) := dt_Switch_underWay_c0 9
theorem d_Switch_underWay_18 : decode (jm_cod M_Switch_underWay) 18 = .ok (.aaload, 1) := dt_Switch_underWay_c0 10
theorem d_Switch_underWay_19 : decode (jm_cod M_Switch_underWay) 19 = .ok (.areturn, 1) := dt_Switch_underWay_c0 11
def tab_Switch_goesBefore_c0 : List (Nat × Instr × Nat) := [(0, .aload_n 0, 1), (1, .iload_n 1, 1), (2, .iload_n 3, 1), (3, .invokevirtual 107, 3), (6, .astore 4, 2), (8, .aload_n 0, 1), (9, .iload_n 2, 1), (10, .iload_n 3, 1), (11, .invokevirtual 107, 3), (14, .astore 5, 2), (16, .aload_n 0, 1), (17, .getfield 80, 3), (20, .iconst 2, 1), (21, .if_icmp .ne 22, 3), (24, .aload 4, 2), (26, .invokevirtual 212, 3), (29, .aload 5, 2), (31, .invokevirtual 212, 3), (34, .if_icmp .ge 7, 3), (37, .iconst 1, 1), (38, .goto 4, 3), (41, .iconst 0, 1), (42, .ireturn, 1), (43, .aload_n 0, 1)]
theorem dt_Switch_goesBefore_c0 (i : Nat) : decode (jm_cod M_Switch_goesBefore) (tab_Switch_goesBefore_c0.getD i (0, .aload_n 0, 1)).1 = .ok ((tab_Switch_goesBefore_c0.getD i (0, .aload_n 0, 1)).2.1, (tab_Switch_goesBefore_c0.getD i (0, .aload_n 0, 1)).2.2) := j_tab (by decide +kernel) i
theorem d_Switch_goesBefore_0 : decode (jm_cod M_Switch_goesBefore) 0 = .ok (.aload_n 0, 1) := dt_Switch_goesBefore_c0 0
theorem d_Switch_goesBefore_1 : decode (jm_cod M_Switch_goesBefore) 1 = .ok (.iload_n 1, 1) := dt_Switch_goesBefore_c0 1
theorem d_Switch_goesBefore_2 : decode (jm_cod M_Switch_goesBefore) 2 = .ok (.iload_n 3, 1) := dt_Switch_goesBefore_c0 2
theorem d_Switch_goesBefore_3 : decode (jm_cod M_Switch_goesBefore) 3 = .ok (.invokevirtual 107, 3) := dt_Switch_goesBefore_c0 3
theorem d_Switch_goesBefore_6 : decode (jm_cod M_Switch_goesBefore) 6 = .ok (.astore 4, 2) := dt_Switch_goesBefore_c0 4
theorem d_Switch_goesBefore_8 : decode (jm_cod M_Switch_goesBefore) 8 = .ok (.aload_n 0, 1) := dt_Switch_goesBefore_c0 5
theorem d_Switch_goesBefore_9 : decode (jm_cod M_Switch_goesBefore) 9 = .ok (.iload_n 2, 1) := dt_Switch_goesBefore_c0 6
theorem d_Switch_goesBefore_10 : decode (jm_cod M_Switch_goesBefore) 10 = .ok (.iload_n 3, 1) := dt_Switch_goesBefore_c0 7
theorem d_Switch_goesBefore_11 : decode (jm_cod M_Switch_goesBefore) 11 = .ok (.invokevirtual 107, 3) := dt_Switch_goesBefore_c0 8
theorem d_Switch_goesBefore_14 : decode (jm_cod M_Switch_goesBefore) 14 = .ok (.astore 5, 2) := dt_Switch_goesBefore_c0 9
theorem d_Switch_goesBefore_16 : decode (jm_cod M_Switch_goesBefore) 16 = .ok (.aload_n 0, 1) := dt_Switch_goesBefore_c0 10
theorem d_Switch_goesBefore_17 : decode (jm_cod M_Switch_goesBefore) 17 = .ok (.getfield 80, 3) := dt_Switch_goesBefore_c0 11
theorem d_Switch_goesBefore_20 : decode (jm_cod M_Switch_goesBefore) 20 = .ok (.iconst 2, 1) := dt_Switch_goesBefore_c0 12
theorem d_Switch_goesBefore_21 : decode (jm_cod M_Switch_goesBefore) 21 = .ok (.if_icmp .ne 22, 3) := dt_Switch_goesBefore_c0 13
theorem d_Switch_goesBefore_24 : decode (jm_cod M_Switch_goesBefore) 24 = .ok (.aload 4, 2) := dt_Switch_goesBefore_c0 14
theorem d_Switch_goesBefore_26 : decode (jm_cod M_Switch_goesBefore) 26 = .ok (.invokevirtual 212, 3) := dt_Switch_goesBefore_c0 15
theorem d_Switch_goesBefore_29 : decode (jm_cod M_Switch_goesBefore) 29 = .ok (.aload 5, 2) := dt_Switch_goesBefore_c0 16
theorem d_Switch_goesBefore_31 : decode (jm_cod M_Switch_goesBefore) 31 = .ok (.invokevirtual 212, 3) := dt_Switch_goesBefore_c0 17
theorem d_Switch_goesBefore_34 : decode (jm_cod M_Switch_goesBefore) 34 = .ok (.if_icmp .ge 7, 3) := dt_Switch_goesBefore_c0 18
theorem d_Switch_goesBefore_37 : decode (jm_cod M_Switch_goesBefore) 37 = .ok (.iconst 1, 1) := dt_Switch_goesBefore_c0 19
theorem d_Switch_goesBefore_38 : decode (jm_cod M_Switch_goesBefore) 38 = .ok (.goto 4, 3) := dt_Switch_goesBefore_c0 20
theorem d_Switch_goesBefore_41 : decode (jm_cod M_Switch_goesBefore) 41 = .ok (.iconst 0, 1) := dt_Switch_goesBefore_c0 21
theorem d_Switch_goesBefore_42 : decode (jm_cod M_Switch_goesBefore) 42 = .ok (.ireturn, 1) := dt_Switch_goesBefore_c0 22
theorem d_Switch_goesBefore_43 : decode (jm_cod M_Switch_goesBefore) 43 = .ok (.aload_n 0, 1) := dt_Switch_goesBefore_c0 23
def tab_Switch_goesBefore_c1 : List (Nat × Instr × Nat) := [(44, .getfield 80, 3), (47, .iconst 3, 1), (48, .if_icmp .ne 26, 3), (51, .aload 4, 2), (53, .invokevirtual 134, 3), (56, .invokestatic 215, 3), (59, .aload 5, 2), (61, .invokevirtual 134, 3), (64, .invokestatic 215, 3), (67, .if_icmp .le 7, 3), (70, .iconst 1, 1), (71, .goto 4, 3), (74, .iconst 0, 1), (75, .ireturn, 1)]
theorem dt_Switch_goesBefore_c1 (i : Nat) : decode (jm_cod M_Switch_goesBefore) (tab_Switch_goesBefore_c1.getD i (44, .getfield 80, 3)).1 = .ok ((tab_Switch_goesBefore_c1.getD i (44, .getfield 80, 3)).2.1, (tab_Switch_goesBefore_c1.getD i (44, .getfield 80, 3)).2.2) := j_tab (by decide +kernel) i
theorem d_Switch_goesBefore_44 : decode (jm_cod M_Switch_goesBefore) 44 = .ok (.getfield 80, 3) := dt_Switch_goesBefore_c1 0
theorem d_Switch_goesBefore_47 : decode (jm_cod M_Switch_goesBefore) 47 = .ok (.iconst 3, 1) := dt_Switch_goesBefore_c1 1
theorem d_Switch_goesBefore_48 : decode (jm_cod M_Switch_goesBefore) 48 = .ok (.if_icmp .ne 26, 3) := dt_Switch_goesBefore_c1 2
theorem d_Switch_goesBefore_51 : decode (jm_cod M_Switch_goesBefore) 51 = .ok (.aload 4, 2) := dt_Switch_goesBefore_c1 3
theorem d_Switch_goesBefore_53 : decode (jm_cod M_Switch_goesBefore) 53 = .ok (.invokevirtual 134, 3) := dt_Switch_goesBefore_c1 4
theorem d_Switch_goesBefore_56 : decode (jm_cod M_Switch_goesBefore) 56 = .ok (.invokestatic 215, 3) := dt_Switch_goesBefore_c1 5
theorem d_Switch_goesBefore_59 : decode (jm_cod M_Switch_goesBefore) 59 = .ok (.aload 5, 2) := dt_Switch_goesBefore_c1 6
theorem d_Switch_goesBefore_61 : decode (jm_cod M_Switch_goesBefore) 61 = .ok (.invokevirtual 134, 3) := dt_Switch_goesBefore_c1 7
theorem d_Switch_goesBefore_64 : decode (jm_cod M_Switch_goesBefore) 64 = .ok (.invokestatic 215, 3) := dt_Switch_goesBefore_c1 8
theorem d_Switch_goesBefore_67 : decode (jm_cod M_Switch_goesBefore) 67 = .ok (.if_icmp .le 7, 3) := dt_Switch_goesBefore_c1 9
theorem d_Switch_goesBefore_70 : decode (jm_cod M_Switch_goesBefore) 70 = .ok (.iconst 1, 1) := dt_Switch_goesBefore_c1 10
theorem d_Switch_goesBefore_71 : decode (jm_cod M_Switch_goesBefore) 71 = .ok (.goto 4, 3) := dt_Switch_goesBefore_c1 11
theorem d_Switch_goesBefore_74 : decode (jm_cod M_Switch_goesBefore) 74 = .ok (.iconst 0, 1) := dt_Switch_goesBefore_c1 12
theorem d_Switch_goesBefore_75 : decode (jm_cod M_Switch_goesBefore) 75 = .ok (.ireturn, 1) := dt_Switch_goesBefore_c1 13
def tab_Switch_moveData_c0 : List (Nat × Instr × Nat) := [(0, .aload_n 0, 1), (1, .iload_n 1, 1), (2, .iconst 1, 1), (3, .invokevirtual 107, 3), (6, .astore_n 2, 1), (7, .aload_n 0, 1), (8, .getfield 38, 3), (11, .iload_n 1, 1), (12, .aaload, 1), (13, .astore_n 3, 1), (14, .aload_n 3, 1), (15, .invokevirtual 218, 3), (18, .istore 4, 2), (20, .iload 4, 2), (22, .iconst (-1), 1), (23, .if_icmp .eq 10, 3), (26, .aload_n 2, 1), (27, .invokevirtual 131, 3), (30, .ifCond .ne 4, 3), (33, .return_, 1), (34, .aload_n 3, 1), (35, .getfield 221, 3), (38, .iload 4, 2), (40, .iaload, 1)]
theorem dt_Switch_moveData_c0 (i : Nat) : decode (jm_cod M_Switch_moveData) (tab_Switch_moveData_c0.getD i (0, .aload_n 0, 1)).1 = .ok ((tab_Switch_moveData_c0.getD i (0, .aload_n 0, 1)).2.1, (tab_Switch_moveData_c0.getD i (0, .aload_n 0, 1)).2.2) := j_tab (by decide +kernel) i
theorem d_Switch_moveData_0 : decode (jm_cod M_Switch_moveData) 0 = .ok (.aload_n 0, 1) := dt_Switch_moveData_c0 0
theorem d_Switch_moveData_1 : decode (jm_cod M_Switch_moveData) 1 = .ok (.iload_n 1, 1) := dt_Switch_moveData_c0 1
theorem d_Switch_moveData_2 : decode (jm_cod M_Switch_moveData) 2 = .ok (.iconst 1, 1) := dt_Switch_moveData_c0 2
theorem d_Switch_moveData_3 : decode (jm_cod M_Switch_moveData) 3 = .ok (.invokevirtual 107, 3) := dt_Switch_moveData_c0 3
theorem d_Switch_moveData_6 : decode (jm_cod M_Switch_moveData) 6 = .ok (.astore_n 2, 1) := dt_Switch_moveData_c0 4
theorem d_Switch_moveData_7 : decode (jm_cod M_Switch_moveData) 7 = .ok (.aload_n 0, 1) := dt_Switch_moveData_c0 5
theorem d_Switch_moveData_8 : decode (jm_cod M_Switch_moveData) 8 = .ok (.getfield 38, 3) := dt_Switch_moveData_c0 6
theorem d_Switch_moveData_11 : decode (jm_cod M_Switch_moveData) 11 = .ok (.iload_n 1, 1) := dt_Switch_moveData_c0 7
theorem d_Switch_moveData_12 : decode (jm_cod M_Switch_moveData) 12 = .ok (.aaload, 1) := dt_Switch_moveData_c0 8
theorem d_Switch_moveData_13 : decode (jm_cod M_Switch_moveData) 13 = .ok (.astore_n 3, 1) := dt_Switch_moveData_c0 9
theorem d_Switch_moveData_14 : decode (jm_cod M_Switch_moveData) 14 = .ok (.aload_n 3, 1) := dt_Switch_moveData_c0 10
theorem d_Switch_moveData_15 : decode (jm_cod M_Switch_moveData) 15 = .ok (.invokevirtual 218, 3) := dt_Switch_moveData_c0 11
theorem d_Switch_moveData_18 : decode (jm_cod M_Switch_moveData) 18 = .ok (.istore 4, 2) := dt_Switch_moveData_c0 12
theorem d_Switch_moveData_20 : decode (jm_cod M_Switch_moveData) 20 = .ok (.iload 4, 2) := dt_Switch_moveData_c0 13
theorem d_Switch_moveData_22 : decode (jm_cod M_Switch_moveData) 22 = .ok (.iconst (-1), 1) := dt_Switch_moveData_c0 14
theorem d_Switch_moveData_23 : decode (jm_cod M_Switch_moveData) 23 = .ok (.if_icmp .eq 10, 3) := dt_Switch_moveData_c0 15
theorem d_Switch_moveData_26 : decode (jm_cod M_Switch_moveData) 26 = .ok (.aload_n 2, 1) := dt_Switch_moveData_c0 16
theorem d_Switch_moveData_27 : decode (jm_cod M_Switch_moveData) 27 = .ok (.invokevirtual 131, 3) := dt_Switch_moveData_c0 17
theorem d_Switch_moveData_30 : decode (jm_cod M_Switch_moveData) 30 = .ok (.ifCond .ne 4, 3) := dt_Switch_moveData_c0 18
theorem d_Switch_moveData_33 : decode (jm_cod M_Switch_moveData) 33 = .ok (.return_, 1) := dt_Switch_moveData_c0 19
theorem d_Switch_moveData_34 : decode (jm_cod M_Switch_moveData) 34 = .ok (.aload_n 3, 1) := dt_Switch_moveData_c0 20
theorem d_Switch_moveData_35 : decode (jm_cod M_Switch_moveData) 35 = .ok (.getfield 221, 3) := dt_Switch_moveData_c0 21
theorem d_Switch_moveData_38 : decode (jm_cod M_Switch_moveData) 38 = .ok (.iload 4, 2) := dt_Switch_moveData_c0 22
theorem d_Switch_moveData_40 : decode (jm_cod M_Switch_moveData) 40 = .ok (.iaload, 1) := dt_Switch_moveData_c0 23
def tab_Switch_moveData_c1 : List (Nat × Instr × Nat) := [(41, .istore 5, 2), (43, .aload_n 0, 1), (44, .iload 5, 2), (46, .iconst 1, 1), (47, .invokevirtual 119, 3), (50, .astore 6, 2), (52, .aload 6, 2), (54, .invokevirtual 127, 3), (57, .ifCond .eq 19, 3), (60, .aload_n 0, 1), (61, .iload 5, 2), (63, .aload_n 3, 1), (64, .getfield 224, 3), (67, .iload 4, 2), (69, .iaload, 1), (70, .invokevirtual 227, 3), (73, .ifCond .ne 4, 3), (76, .return_, 1), (77, .aload 6, 2), (79, .aload_n 2, 1), (80, .invokevirtual 134, 3), (83, .aload_n 2, 1), (84, .invokevirtual 138, 3), (87, .iconst 0, 1)]
theorem dt_Switch_moveData_c1 (i : Nat) : decode (jm_cod M_Switch_moveData) (tab_Switch_moveData_c1.getD i (41, .istore 5, 2)).1 = .ok ((tab_Switch_moveData_c1.getD i (41, .istore 5, 2)).2.1, (tab_Switch_moveData_c1.getD i (41, .istore 5, 2)).2.2) := j_tab (by decide +kernel) i
theorem d_Switch_moveData_41 : decode (jm_cod M_Switch_moveData) 41 = .ok (.istore 5, 2) := dt_Switch_moveData_c1 0
theorem d_Switch_moveData_43 : decode (jm_cod M_Switch_moveData) 43 = .ok (.aload_n 0, 1) := dt_Switch_moveData_c1 1
theorem d_Switch_moveData_44 : decode (jm_cod M_Switch_moveData) 44 = .ok (.iload 5, 2) := dt_Switch_moveData_c1 2
theorem d_Switch_moveData_46 : decode (jm_cod M_Switch_moveData) 46 = .ok (.iconst 1, 1) := dt_Switch_moveData_c1 3
theorem d_Switch_moveData_47 : decode (jm_cod M_Switch_moveData) 47 = .ok (.invokevirtual 119, 3) := dt_Switch_moveData_c1 4
theorem d_Switch_moveData_50 : decode (jm_cod M_Switch_moveData) 50 = .ok (.astore 6, 2) := dt_Switch_moveData_c1 5
theorem d_Switch_moveData_52 : decode (jm_cod M_Switch_moveData) 52 = .ok (.aload 6, 2) := dt_Switch_moveData_c1 6
theorem d_Switch_moveData_54 : decode (jm_cod M_Switch_moveData) 54 = .ok (.invokevirtual 127, 3) := dt_Switch_moveData_c1 7
theorem d_Switch_moveData_57 : decode (jm_cod M_Switch_moveData) 57 = .ok (.ifCond .eq 19, 3) := dt_Switch_moveData_c1 8
theorem d_Switch_moveData_60 : decode (jm_cod M_Switch_moveData) 60 = .ok (.aload_n 0, 1) := dt_Switch_moveData_c1 9
theorem d_Switch_moveData_61 : decode (jm_cod M_Switch_moveData) 61 = .ok (.iload 5, 2) := dt_Switch_moveData_c1 10
theorem d_Switch_moveData_63 : decode (jm_cod M_Switch_moveData) 63 = .ok (.aload_n 3, 1) := dt_Switch_moveData_c1 11
theorem d_Switch_moveData_64 : decode (jm_cod M_Switch_moveData) 64 = .ok (.getfield 224, 3) := dt_Switch_moveData_c1 12
theorem d_Switch_moveData_67 : decode (jm_cod M_Switch_moveData) 67 = .ok (.iload 4, 2) := dt_Switch_moveData_c1 13
theorem d_Switch_moveData_69 : decode (jm_cod M_Switch_moveData) 69 = .ok (.iaload, 1) := dt_Switch_moveData_c1 14
theorem d_Switch_moveData_70 : decode (jm_cod M_Switch_moveData) 70 = .ok (.invokevirtual 227, 3) := dt_Switch_moveData_c1 15
theorem d_Switch_moveData_73 : decode (jm_cod M_Switch_moveData) 73 = .ok (.ifCond .ne 4, 3) := dt_Switch_moveData_c1 16
theorem d_Switch_moveData_76 : decode (jm_cod M_Switch_moveData) 76 = .ok (.return_, 1) := dt_Switch_moveData_c1 17
theorem d_Switch_moveData_77 : decode (jm_cod M_Switch_moveData) 77 = .ok (.aload 6, 2) := dt_Switch_moveData_c1 18
theorem d_Switch_moveData_79 : decode (jm_cod M_Switch_moveData) 79 = .ok (.aload_n 2, 1) := dt_Switch_moveData_c1 19
theorem d_Switch_moveData_80 : decode (jm_cod M_Switch_moveData) 80 = .ok (.invokevirtual 134, 3) := dt_Switch_moveData_c1 20
theorem d_Switch_moveData_83 : decode (jm_cod M_Switch_moveData) 83 = .ok (.aload_n 2, 1) := dt_Switch_moveData_c1 21
theorem d_Switch_moveData_84 : decode (jm_cod M_Switch_moveData) 84 = .ok (.invokevirtual 138, 3) := dt_Switch_moveData_c1 22
theorem d_Switch_moveData_87 : decode (jm_cod M_Switch_moveData) 87 = .ok (.iconst 0, 1) := dt_Switch_moveData_c1 23
def tab_Switch_moveData_c2 : List (Nat × Instr × Nat) := [(88, .invokevirtual 157, 3), (91, .aload_n 2, 1), (92, .invokevirtual 161, 3), (95, .aload_n 3, 1), (96, .getfield 231, 3), (99, .iload 4, 2), (101, .dup2, 1), (102, .iaload, 1), (103, .iconst 1, 1), (104, .isub, 1), (105, .iastore, 1), (106, .return_, 1)]
theorem dt_Switch_moveData_c2 (i : Nat) : decode (jm_cod M_Switch_moveData) (tab_Switch_moveData_c2.getD i (88, .invokevirtual 157, 3)).1 = .ok ((tab_Switch_moveData_c2.getD i (88, .invokevirtual 157, 3)).2.1, (tab_Switch_moveData_c2.getD i (88, .invokevirtual 157, 3)).2.2) := j_tab (by decide +kernel) i
theorem d_Switch_moveData_88 : decode (jm_cod M_Switch_moveData) 88 = .ok (.invokevirtual 157, 3) := dt_Switch_moveData_c2 0
theorem d_Switch_moveData_91 : decode (jm_cod M_Switch_moveData) 91 = .ok (.aload_n 2, 1) := dt_Switch_moveData_c2 1
theorem d_Switch_moveData_92 : decode (jm_cod M_Switch_moveData) 92 = .ok (.invokevirtual 161, 3) := dt_Switch_moveData_c2 2
theorem d_Switch_moveData_95 : decode (jm_cod M_Switch_moveData) 95 = .ok (.aload_n 3, 1) := dt_Switch_moveData_c2 3
theorem d_Switch_moveData_96 : decode (jm_cod M_Switch_moveData) 96 = .ok (.getfield 231, 3) := dt_Switch_moveData_c2 4
theorem d_Switch_moveData_99 : decode (jm_cod M_Switch_moveData) 99 = .ok (.iload 4, 2) := dt_Switch_moveData_c2 5
theorem d_Switch_moveData_101 : decode (jm_cod M_Switch_moveData) 101 = .ok (.dup2, 1) := dt_Switch_moveData_c2 6
theorem d_Switch_moveData_102 : decode (jm_cod M_Switch_moveData) 102 = .ok (.iaload, 1) := dt_Switch_moveData_c2 7
theorem d_Switch_moveData_103 : decode (jm_cod M_Switch_moveData) 103 = .ok (.iconst 1, 1) := dt_Switch_moveData_c2 8
theorem d_Switch_moveData_104 : decode (jm_cod M_Switch_moveData) 104 = .ok (.isub, 1) := dt_Switch_moveData_c2 9
theorem d_Switch_moveData_105 : decode (jm_cod M_Switch_moveData) 105 = .ok (.iastore, 1) := dt_Switch_moveData_c2 10
theorem d_Switch_moveData_106 : decode (jm_cod M_Switch_moveData) 106 = .ok (.return_, 1) := dt_Switch_moveData_c2 11
def tab_Switch_isNextFor_c0 : List (Nat × Instr × Nat) := [(0, .iconst 0, 1), (1, .istore_n 3, 1), (2, .iload_n 3, 1), (3, .aload_n 0, 1), (4, .getfield 15, 3), (7, .if_icmp .ge 25, 3), (10, .aload_n 0, 1), (11, .getfield 38, 3), (14, .iload_n 3, 1), (15, .aaload, 1), (16, .iload_n 2, 1), (17, .iload_n 1, 1), (18, .invokevirtual 234, 3), (21, .ifCond .eq 5, 3), (24, .iconst 0, 1), (25, .ireturn, 1), (26, .iinc 3 1, 3), (29, .goto (-27), 3), (32, .iconst 1, 1), (33, .ireturn, 1)]
theorem dt_Switch_isNextFor_c0 (i : Nat) : decode (jm_cod M_Switch_isNextFor) (tab_Switch_isNextFor_c0.getD i (0, .iconst 0, 1)).1 = .ok ((tab_Switch_isNextFor_c0.getD i (0, .iconst 0, 1)).2.1, (tab_Switch_isNextFor_c0.getD i (0, .iconst 0, 1)).2.2) := j_tab (by decide +kernel) i
theorem d_Switch_isNextFor_0 : decode (jm_cod M_Switch_isNextFor) 0 = .ok (.iconst 0, 1) := dt_Switch_isNextFor_c0 0
theorem d_Switch_isNextFor_1 : decode (jm_cod M_Switch_isNextFor) 1 = .ok (.istore_n 3, 1) := dt_Switch_isNextFor_c0 1
theorem d_Switch_isNextFor_2 : decode (jm_cod M_Switch_isNextFor) 2 = .ok (.iload_n 3, 1) := dt_Switch_isNextFor_c0 2
theorem d_Switch_isNextFor_3 : decode (jm_cod M_Switch_isNextFor) 3 = .ok (.aload_n 0, 1) := dt_Switch_isNextFor_c0 3
theorem d_Switch_isNextFor_4 : decode (jm_cod M_Switch_isNextFor) 4 = .ok (.getfield 15, 3) := dt_Switch_isNextFor_c0 4
theorem d_Switch_isNextFor_7 : decode (jm_cod M_Switch_isNextFor) 7 = .ok (.if_icmp .ge 25, 3) := dt_Switch_isNextFor_c0 5
theorem d_Switch_isNextFor_10 : decode (jm_cod M_Switch_isNextFor) 10 = .ok (.aload_n 0, 1) := dt_Switch_isNextFor_c0 6
theorem d_Switch_isNextFor_11 : decode (jm_cod M_Switch_isNextFor) 11 = .ok (.getfield 38, 3) := dt_Switch_isNextFor_c0 7
theorem d_Switch_isNextFor_14 : decode (jm_cod M_Switch_isNextFor) 14 = .ok (.iload_n 3, 1) := dt_Switch_isNextFor_c0 8
theorem d_Switch_isNextFor_15 : decode (jm_cod M_Switch_isNextFor) 15 = .ok (.aaload, 1) := dt_Switch_isNextFor_c0 9
theorem d_Switch_isNextFor_16 : decode (jm_cod M_Switch_isNextFor) 16 = .ok (.iload_n 2, 1) := dt_Switch_isNextFor_c0 10
theorem d_Switch_isNextFor_17 : decode (jm_cod M_Switch_isNextFor) 17 = .ok (.iload_n 1, 1) := dt_Switch_isNextFor_c0 11
theorem d_Switch_isNextFor_18 : decode (jm_cod M_Switch_isNextFor) 18 = .ok (.invokevirtual 234, 3) := dt_Switch_isNextFor_c0 12
theorem d_Switch_isNextFor_21 : decode (jm_cod M_Switch_isNextFor) 21 = .ok (.ifCond .eq 5, 3) := dt_Switch_isNextFor_c0 13
theorem d_Switch_isNextFor_24 : decode (jm_cod M_Switch_isNextFor) 24 = .ok (.iconst 0, 1) := dt_Switch_isNextFor_c0 14
theorem d_Switch_isNextFor_25 : decode (jm_cod M_Switch_isNextFor) 25 = .ok (.ireturn, 1) := dt_Switch_isNextFor_c0 15
theorem d_Switch_isNextFor_26 : decode (jm_cod M_Switch_isNextFor) 26 = .ok (.iinc 3 1, 3) := dt_Switch_isNextFor_c0 16
theorem d_Switch_isNextFor_29 : decode (jm_cod M_Switch_isNextFor) 29 = .ok (.goto (-27), 3) := dt_Switch_isNextFor_c0 17
theorem d_Switch_isNextFor_32 : decode (jm_cod M_Switch_isNextFor) 32 = .ok (.iconst 1, 1) := dt_Switch_isNextFor_c0 18
theorem d_Switch_isNextFor_33 : decode (jm_cod M_Switch_isNextFor) 33 = .ok (.ireturn, 1) := dt_Switch_isNextFor_c0 19
def tab_Switch_refuseWrite_c0 : List (Nat × Instr × Nat) := [(0, .aload_n 0, 1), (1, .aload_n 0, 1), (2, .getfield 19, 3), (5, .iconst 1, 1), (6, .invokevirtual 119, 3), (9, .astore_n 1, 1), (10, .aload_n 0, 1), (11, .aload_n 0, 1), (12, .getfield 19, 3), (15, .iconst 2, 1), (16, .invokevirtual 119, 3), (19, .astore_n 2, 1), (20, .aload_n 0, 1), (21, .aload_n 0, 1), (22, .getfield 19, 3), (25, .iconst 0, 1), (26, .invokevirtual 119, 3), (29, .astore_n 3, 1), (30, .aload_n 1, 1), (31, .invokevirtual 138, 3), (34, .invokestatic 237, 3), (37, .istore 4, 2), (39, .aload_n 1, 1), (40, .invokevirtual 131, 3)]
theorem dt_Switch_refuseWrite_c0 (i : Nat) : decode (jm_cod M_Switch_refuseWrite) (tab_Switch_refuseWrite_c0.getD i (0, .aload_n 0, 1)).1 = .ok ((tab_Switch_refuseWrite_c0.getD i (0, .aload_n 0, 1)).2.1, (tab_Switch_refuseWrite_c0.getD i (0, .aload_n 0, 1)).2.2) := j_tab (by decide +kernel) i
theorem d_Switch_refuseWrite_0 : decode (jm_cod M_Switch_refuseWrite) 0 = .ok (.aload_n 0, 1) := dt_Switch_refuseWrite_c0 0
theorem d_Switch_refuseWrite_1 : decode (jm_cod M_Switch_refuseWrite) 1 = .ok (.aload_n 0, 1) := dt_Switch_refuseWrite_c0 1
theorem d_Switch_refuseWrite_2 : decode (jm_cod M_Switch_refuseWrite) 2 = .ok (.getfield 19, 3) := dt_Switch_refuseWrite_c0 2
theorem d_Switch_refuseWrite_5 : decode (jm_cod M_Switch_refuseWrite) 5 = .ok (.iconst 1, 1) := dt_Switch_refuseWrite_c0 3
theorem d_Switch_refuseWrite_6 : decode (jm_cod M_Switch_refuseWrite) 6 = .ok (.invokevirtual 119, 3) := dt_Switch_refuseWrite_c0 4
theorem d_Switch_refuseWrite_9 : decode (jm_cod M_Switch_refuseWrite) 9 = .ok (.astore_n 1, 1) := dt_Switch_refuseWrite_c0 5
theorem d_Switch_refuseWrite_10 : decode (jm_cod M_Switch_refuseWrite) 10 = .ok (.aload_n 0, 1) := dt_Switch_refuseWrite_c0 6
theorem d_Switch_refuseWrite_11 : decode (jm_cod M_Switch_refuseWrite) 11 = .ok (.aload_n 0, 1) := dt_Switch_refuseWrite_c0 7
theorem d_Switch_refuseWrite_12 : decode (jm_cod M_Switch_refuseWrite) 12 = .ok (.getfield 19, 3) := dt_Switch_refuseWrite_c0 8
theorem d_Switch_refuseWrite_15 : decode (jm_cod M_Switch_refuseWrite) 15 = .ok (.iconst 2, 1) := dt_Switch_refuseWrite_c0 9
theorem d_Switch_refuseWrite_16 : decode (jm_cod M_Switch_refuseWrite) 16 = .ok (.invokevirtual 119, 3) := dt_Switch_refuseWrite_c0 10
theorem d_Switch_refuseWrite_19 : decode (jm_cod M_Switch_refuseWrite) 19 = .ok (.astore_n 2, 1) := dt_Switch_refuseWrite_c0 11
theorem d_Switch_refuseWrite_20 : decode (jm_cod M_Switch_refuseWrite) 20 = .ok (.aload_n 0, 1) := dt_Switch_refuseWrite_c0 12
theorem d_Switch_refuseWrite_21 : decode (jm_cod M_Switch_refuseWrite) 21 = .ok (.aload_n 0, 1) := dt_Switch_refuseWrite_c0 13
theorem d_Switch_refuseWrite_22 : decode (jm_cod M_Switch_refuseWrite) 22 = .ok (.getfield 19, 3) := dt_Switch_refuseWrite_c0 14
theorem d_Switch_refuseWrite_25 : decode (jm_cod M_Switch_refuseWrite) 25 = .ok (.iconst 0, 1) := dt_Switch_refuseWrite_c0 15
theorem d_Switch_refuseWrite_26 : decode (jm_cod M_Switch_refuseWrite) 26 = .ok (.invokevirtual 119, 3) := dt_Switch_refuseWrite_c0 16
theorem d_Switch_refuseWrite_29 : decode (jm_cod M_Switch_refuseWrite) 29 = .ok (.astore_n 3, 1) := dt_Switch_refuseWrite_c0 17
theorem d_Switch_refuseWrite_30 : decode (jm_cod M_Switch_refuseWrite) 30 = .ok (.aload_n 1, 1) := dt_Switch_refuseWrite_c0 18
theorem d_Switch_refuseWrite_31 : decode (jm_cod M_Switch_refuseWrite) 31 = .ok (.invokevirtual 138, 3) := dt_Switch_refuseWrite_c0 19
theorem d_Switch_refuseWrite_34 : decode (jm_cod M_Switch_refuseWrite) 34 = .ok (.invokestatic 237, 3) := dt_Switch_refuseWrite_c0 20
theorem d_Switch_refuseWrite_37 : decode (jm_cod M_Switch_refuseWrite) 37 = .ok (.istore 4, 2) := dt_Switch_refuseWrite_c0 21
theorem d_Switch_refuseWrite_39 : decode (jm_cod M_Switch_refuseWrite) 39 = .ok (.aload_n 1, 1) := dt_Switch_refuseWrite_c0 22
theorem d_Switch_refuseWrite_40 : decode (jm_cod M_Switch_refuseWrite) 40 = .ok (.invokevirtual 131, 3) := dt_Switch_refuseWrite_c0 23
def tab_Switch_refuseWrite_c1 : List (Nat × Instr × Nat) := [(43, .ifCond .eq 15, 3), (46, .iload 4, 2), (48, .ifCond .eq 11, 3), (51, .aload_n 2, 1), (52, .invokevirtual 127, 3), (55, .ifCond .ne 4, 3), (58, .return_, 1), (59, .aload_n 1, 1), (60, .invokevirtual 161, 3), (63, .iload 4, 2), (65, .ifCond .eq 29, 3), (68, .aload_n 3, 1), (69, .invokevirtual 134, 3), (72, .invokestatic 190, 3), (75, .istore 5, 2), (77, .aload_n 2, 1), (78, .lconst 0, 1), (79, .iload 5, 2), (81, .iconst 3, 1), (82, .iconst 0, 1), (83, .invokestatic 240, 3), (86, .iconst 0, 1), (87, .invokevirtual 157, 3), (90, .aload_n 3, 1)]
theorem dt_Switch_refuseWrite_c1 (i : Nat) : decode (jm_cod M_Switch_refuseWrite) (tab_Switch_refuseWrite_c1.getD i (43, .ifCond .eq 15, 3)).1 = .ok ((tab_Switch_refuseWrite_c1.getD i (43, .ifCond .eq 15, 3)).2.1, (tab_Switch_refuseWrite_c1.getD i (43, .ifCond .eq 15, 3)).2.2) := j_tab (by decide +kernel) i
theorem d_Switch_refuseWrite_43 : decode (jm_cod M_Switch_refuseWrite) 43 = .ok (.ifCond .eq 15, 3) := dt_Switch_refuseWrite_c1 0
theorem d_Switch_refuseWrite_46 : decode (jm_cod M_Switch_refuseWrite) 46 = .ok (.iload 4, 2) := dt_Switch_refuseWrite_c1 1
theorem d_Switch_refuseWrite_48 : decode (jm_cod M_Switch_refuseWrite) 48 = .ok (.ifCond .eq 11, 3) := dt_Switch_refuseWrite_c1 2
theorem d_Switch_refuseWrite_51 : decode (jm_cod M_Switch_refuseWrite) 51 = .ok (.aload_n 2, 1) := dt_Switch_refuseWrite_c1 3
theorem d_Switch_refuseWrite_52 : decode (jm_cod M_Switch_refuseWrite) 52 = .ok (.invokevirtual 127, 3) := dt_Switch_refuseWrite_c1 4
theorem d_Switch_refuseWrite_55 : decode (jm_cod M_Switch_refuseWrite) 55 = .ok (.ifCond .ne 4, 3) := dt_Switch_refuseWrite_c1 5
theorem d_Switch_refuseWrite_58 : decode (jm_cod M_Switch_refuseWrite) 58 = .ok (.return_, 1) := dt_Switch_refuseWrite_c1 6
theorem d_Switch_refuseWrite_59 : decode (jm_cod M_Switch_refuseWrite) 59 = .ok (.aload_n 1, 1) := dt_Switch_refuseWrite_c1 7
theorem d_Switch_refuseWrite_60 : decode (jm_cod M_Switch_refuseWrite) 60 = .ok (.invokevirtual 161, 3) := dt_Switch_refuseWrite_c1 8
theorem d_Switch_refuseWrite_63 : decode (jm_cod M_Switch_refuseWrite) 63 = .ok (.iload 4, 2) := dt_Switch_refuseWrite_c1 9
theorem d_Switch_refuseWrite_65 : decode (jm_cod M_Switch_refuseWrite) 65 = .ok (.ifCond .eq 29, 3) := dt_Switch_refuseWrite_c1 10
theorem d_Switch_refuseWrite_68 : decode (jm_cod M_Switch_refuseWrite) 68 = .ok (.aload_n 3, 1) := dt_Switch_refuseWrite_c1 11
theorem d_Switch_refuseWrite_69 : decode (jm_cod M_Switch_refuseWrite) 69 = .ok (.invokevirtual 134, 3) := dt_Switch_refuseWrite_c1 12
theorem d_Switch_refuseWrite_72 : decode (jm_cod M_Switch_refuseWrite) 72 = .ok (.invokestatic 190, 3) := dt_Switch_refuseWrite_c1 13
theorem d_Switch_refuseWrite_75 : decode (jm_cod M_Switch_refuseWrite) 75 = .ok (.istore 5, 2) := dt_Switch_refuseWrite_c1 14
theorem d_Switch_refuseWrite_77 : decode (jm_cod M_Switch_refuseWrite) 77 = .ok (.aload_n 2, 1) := dt_Switch_refuseWrite_c1 15
theorem d_Switch_refuseWrite_78 : decode (jm_cod M_Switch_refuseWrite) 78 = .ok (.lconst 0, 1) := dt_Switch_refuseWrite_c1 16
theorem d_Switch_refuseWrite_79 : decode (jm_cod M_Switch_refuseWrite) 79 = .ok (.iload 5, 2) := dt_Switch_refuseWrite_c1 17
theorem d_Switch_refuseWrite_81 : decode (jm_cod M_Switch_refuseWrite) 81 = .ok (.iconst 3, 1) := dt_Switch_refuseWrite_c1 18
theorem d_Switch_refuseWrite_82 : decode (jm_cod M_Switch_refuseWrite) 82 = .ok (.iconst 0, 1) := dt_Switch_refuseWrite_c1 19
theorem d_Switch_refuseWrite_83 : decode (jm_cod M_Switch_refuseWrite) 83 = .ok (.invokestatic 240, 3) := dt_Switch_refuseWrite_c1 20
theorem d_Switch_refuseWrite_86 : decode (jm_cod M_Switch_refuseWrite) 86 = .ok (.iconst 0, 1) := dt_Switch_refuseWrite_c1 21
theorem d_Switch_refuseWrite_87 : decode (jm_cod M_Switch_refuseWrite) 87 = .ok (.invokevirtual 157, 3) := dt_Switch_refuseWrite_c1 22
theorem d_Switch_refuseWrite_90 : decode (jm_cod M_Switch_refuseWrite) 90 = .ok (.aload_n 3, 1) := dt_Switch_refuseWrite_c1 23
def tab_Switch_refuseWrite_c2 : List (Nat × Instr × Nat) := [(91, .invokevirtual 161, 3), (94, .return_, 1)]
theorem dt_Switch_refuseWrite_c2 (i : Nat) : decode (jm_cod M_Switch_refuseWrite) (tab_Switch_refuseWrite_c2.getD i (91, .invokevirtual 161, 3)).1 = .ok ((tab_Switch_refuseWrite_c2.getD i (91, .invokevirtual 161, 3)).2.1, (tab_Switch_refuseWrite_c2.getD i (91, .invokevirtual 161, 3)).2.2) := j_tab (by decide +kernel) i
theorem d_Switch_refuseWrite_91 : decode (jm_cod M_Switch_refuseWrite) 91 = .ok (.invokevirtual 161, 3) := dt_Switch_refuseWrite_c2 0
theorem d_Switch_refuseWrite_94 : decode (jm_cod M_Switch_refuseWrite) 94 = .ok (.return_, 1) := dt_Switch_refuseWrite_c2 1
def tab_Switch_refuseRead_c0 : List (Nat × Instr × Nat) := [(0, .aload_n 0, 1), (1, .aload_n 0, 1), (2, .getfield 19, 3), (5, .iconst 3, 1), (6, .invokevirtual 119, 3), (9, .astore_n 1, 1), (10, .aload_n 0, 1), (11, .aload_n 0, 1), (12, .getfield 19, 3), (15, .iconst 4, 1), (16, .invokevirtual 119, 3), (19, .astore_n 2, 1), (20, .aload_n 1, 1), (21, .invokevirtual 131, 3), (24, .ifCond .eq 10, 3), (27, .aload_n 2, 1), (28, .invokevirtual 127, 3), (31, .ifCond .ne 4, 3), (34, .return_, 1), (35, .aload_n 1, 1), (36, .invokevirtual 134, 3), (39, .lstore_n 3, 1), (40, .aload_n 0, 1), (41, .dup, 1)]
theorem dt_Switch_refuseRead_c0 (i : Nat) : decode (jm_cod M_Switch_refuseRead) (tab_Switch_refuseRead_c0.getD i (0, .aload_n 0, 1)).1 = .ok ((tab_Switch_refuseRead_c0.getD i (0, .aload_n 0, 1)).2.1, (tab_Switch_refuseRead_c0.getD i (0, .aload_n 0, 1)).2.2) := j_tab (by decide +kernel) i
theorem d_Switch_refuseRead_0 : decode (jm_cod M_Switch_refuseRead) 0 = .ok (.aload_n 0, 1) := dt_Switch_refuseRead_c0 0
theorem d_Switch_refuseRead_1 : decode (jm_cod M_Switch_refuseRead) 1 = .ok (.aload_n 0, 1) := dt_Switch_refuseRead_c0 1
theorem d_Switch_refuseRead_2 : decode (jm_cod M_Switch_refuseRead) 2 = .ok (.getfield 19, 3) := dt_Switch_refuseRead_c0 2
theorem d_Switch_refuseRead_5 : decode (jm_cod M_Switch_refuseRead) 5 = .ok (.iconst 3, 1) := dt_Switch_refuseRead_c0 3
theorem d_Switch_refuseRead_6 : decode (jm_cod M_Switch_refuseRead) 6 = .ok (.invokevirtual 119, 3) := dt_Switch_refuseRead_c0 4
theorem d_Switch_refuseRead_9 : decode (jm_cod M_Switch_refuseRead) 9 = .ok (.astore_n 1, 1) := dt_Switch_refuseRead_c0 5
theorem d_Switch_refuseRead_10 : decode (jm_cod M_Switch_refuseRead) 10 = .ok (.aload_n 0, 1) := dt_Switch_refuseRead_c0 6
theorem d_Switch_refuseRead_11 : decode (jm_cod M_Switch_refuseRead) 11 = .ok (.aload_n 0, 1) := dt_Switch_refuseRead_c0 7
theorem d_Switch_refuseRead_12 : decode (jm_cod M_Switch_refuseRead) 12 = .ok (.getfield 19, 3) := dt_Switch_refuseRead_c0 8
theorem d_Switch_refuseRead_15 : decode (jm_cod M_Switch_refuseRead) 15 = .ok (.iconst 4, 1) := dt_Switch_refuseRead_c0 9
theorem d_Switch_refuseRead_16 : decode (jm_cod M_Switch_refuseRead) 16 = .ok (.invokevirtual 119, 3) := dt_Switch_refuseRead_c0 10
theorem d_Switch_refuseRead_19 : decode (jm_cod M_Switch_refuseRead) 19 = .ok (.astore_n 2, 1) := dt_Switch_refuseRead_c0 11
theorem d_Switch_refuseRead_20 : decode (jm_cod M_Switch_refuseRead) 20 = .ok (.aload_n 1, 1) := dt_Switch_refuseRead_c0 12
theorem d_Switch_refuseRead_21 : decode (jm_cod M_Switch_refuseRead) 21 = .ok (.invokevirtual 131, 3) := dt_Switch_refuseRead_c0 13
theorem d_Switch_refuseRead_24 : decode (jm_cod M_Switch_refuseRead) 24 = .ok (.ifCond .eq 10, 3) := dt_Switch_refuseRead_c0 14
theorem d_Switch_refuseRead_27 : decode (jm_cod M_Switch_refuseRead) 27 = .ok (.aload_n 2, 1) := dt_Switch_refuseRead_c0 15
theorem d_Switch_refuseRead_28 : decode (jm_cod M_Switch_refuseRead) 28 = .ok (.invokevirtual 127, 3) := dt_Switch_refuseRead_c0 16
theorem d_Switch_refuseRead_31 : decode (jm_cod M_Switch_refuseRead) 31 = .ok (.ifCond .ne 4, 3) := dt_Switch_refuseRead_c0 17
theorem d_Switch_refuseRead_34 : decode (jm_cod M_Switch_refuseRead) 34 = .ok (.return_, 1) := dt_Switch_refuseRead_c0 18
theorem d_Switch_refuseRead_35 : decode (jm_cod M_Switch_refuseRead) 35 = .ok (.aload_n 1, 1) := dt_Switch_refuseRead_c0 19
theorem d_Switch_refuseRead_36 : decode (jm_cod M_Switch_refuseRead) 36 = .ok (.invokevirtual 134, 3) := dt_Switch_refuseRead_c0 20
theorem d_Switch_refuseRead_39 : decode (jm_cod M_Switch_refuseRead) 39 = .ok (.lstore_n 3, 1) := dt_Switch_refuseRead_c0 21
theorem d_Switch_refuseRead_40 : decode (jm_cod M_Switch_refuseRead) 40 = .ok (.aload_n 0, 1) := dt_Switch_refuseRead_c0 22
theorem d_Switch_refuseRead_41 : decode (jm_cod M_Switch_refuseRead) 41 = .ok (.dup, 1) := dt_Switch_refuseRead_c0 23
def tab_Switch_refuseRead_c1 : List (Nat × Instr × Nat) := [(42, .getfield 87, 3), (45, .iconst 1, 1), (46, .iadd, 1), (47, .putfield 87, 3), (50, .aload_n 0, 1), (51, .getfield 87, 3), (54, .lload_n 3, 1), (55, .invokestatic 187, 3), (58, .if_icmp .lt 7, 3), (61, .iconst 1, 1), (62, .goto 4, 3), (65, .iconst 0, 1), (66, .istore 5, 2), (68, .aload_n 2, 1), (69, .lconst 0, 1), (70, .lload_n 3, 1), (71, .invokestatic 190, 3), (74, .iconst 3, 1), (75, .iload 5, 2), (77, .invokestatic 240, 3), (80, .iconst 0, 1), (81, .invokevirtual 157, 3), (84, .iload 5, 2), (86, .ifCond .eq 12, 3)]
theorem dt_Switch_refuseRead_c1 (i : Nat) : decode (jm_cod M_Switch_refuseRead) (tab_Switch_refuseRead_c1.getD i (42, .getfield 87, 3)).1 = .ok ((tab_Switch_refuseRead_c1.getD i (42, .getfield 87, 3)).2.1, (tab_Switch_refuseRead_c1.getD i (42, .getfield 87, 3)).2.2) := j_tab (by decide +kernel) i
theorem d_Switch_refuseRead_42 : decode (jm_cod M_Switch_refuseRead) 42 = .ok (.getfield 87, 3) := dt_Switch_refuseRead_c1 0
theorem d_Switch_refuseRead_45 : decode (jm_cod M_Switch_refuseRead) 45 = .ok (.iconst 1, 1) := dt_Switch_refuseRead_c1 1
theorem d_Switch_refuseRead_46 : decode (jm_cod M_Switch_refuseRead) 46 = .ok (.iadd, 1) := dt_Switch_refuseRead_c1 2
theorem d_Switch_refuseRead_47 : decode (jm_cod M_Switch_refuseRead) 47 = .ok (.putfield 87, 3) := dt_Switch_refuseRead_c1 3
theorem d_Switch_refuseRead_50 : decode (jm_cod M_Switch_refuseRead) 50 = .ok (.aload_n 0, 1) := dt_Switch_refuseRead_c1 4
theorem d_Switch_refuseRead_51 : decode (jm_cod M_Switch_refuseRead) 51 = .ok (.getfield 87, 3) := dt_Switch_refuseRead_c1 5
theorem d_Switch_refuseRead_54 : decode (jm_cod M_Switch_refuseRead) 54 = .ok (.lload_n 3, 1) := dt_Switch_refuseRead_c1 6
theorem d_Switch_refuseRead_55 : decode (jm_cod M_Switch_refuseRead) 55 = .ok (.invokestatic 187, 3) := dt_Switch_refuseRead_c1 7
theorem d_Switch_refuseRead_58 : decode (jm_cod M_Switch_refuseRead) 58 = .ok (.if_icmp .lt 7, 3) := dt_Switch_refuseRead_c1 8
theorem d_Switch_refuseRead_61 : decode (jm_cod M_Switch_refuseRead) 61 = .ok (.iconst 1, 1) := dt_Switch_refuseRead_c1 9
theorem d_Switch_refuseRead_62 : decode (jm_cod M_Switch_refuseRead) 62 = .ok (.goto 4, 3) := dt_Switch_refuseRead_c1 10
theorem d_Switch_refuseRead_65 : decode (jm_cod M_Switch_refuseRead) 65 = .ok (.iconst 0, 1) := dt_Switch_refuseRead_c1 11
theorem d_Switch_refuseRead_66 : decode (jm_cod M_Switch_refuseRead) 66 = .ok (.istore 5, 2) := dt_Switch_refuseRead_c1 12
theorem d_Switch_refuseRead_68 : decode (jm_cod M_Switch_refuseRead) 68 = .ok (.aload_n 2, 1) := dt_Switch_refuseRead_c1 13
theorem d_Switch_refuseRead_69 : decode (jm_cod M_Switch_refuseRead) 69 = .ok (.lconst 0, 1) := dt_Switch_refuseRead_c1 14
theorem d_Switch_refuseRead_70 : decode (jm_cod M_Switch_refuseRead) 70 = .ok (.lload_n 3, 1) := dt_Switch_refuseRead_c1 15
theorem d_Switch_refuseRead_71 : decode (jm_cod M_Switch_refuseRead) 71 = .ok (.invokestatic 190, 3) := dt_Switch_refuseRead_c1 16
theorem d_Switch_refuseRead_74 : decode (jm_cod M_Switch_refuseRead) 74 = .ok (.iconst 3, 1) := dt_Switch_refuseRead_c1 17
theorem d_Switch_refuseRead_75 : decode (jm_cod M_Switch_refuseRead) 75 = .ok (.iload 5, 2) := dt_Switch_refuseRead_c1 18
theorem d_Switch_refuseRead_77 : decode (jm_cod M_Switch_refuseRead) 77 = .ok (.invokestatic 240, 3) := dt_Switch_refuseRead_c1 19
theorem d_Switch_refuseRead_80 : decode (jm_cod M_Switch_refuseRead) 80 = .ok (.iconst 0, 1) := dt_Switch_refuseRead_c1 20
theorem d_Switch_refuseRead_81 : decode (jm_cod M_Switch_refuseRead) 81 = .ok (.invokevirtual 157, 3) := dt_Switch_refuseRead_c1 21
theorem d_Switch_refuseRead_84 : decode (jm_cod M_Switch_refuseRead) 84 = .ok (.iload 5, 2) := dt_Switch_refuseRead_c1 22
theorem d_Switch_refuseRead_86 : decode (jm_cod M_Switch_refuseRead) 86 = .ok (.ifCond .eq 12, 3) := dt_Switch_refuseRead_c1 23
def tab_Switch_refuseRead_c2 : List (Nat × Instr × Nat) := [(89, .aload_n 1, 1), (90, .invokevirtual 161, 3), (93, .aload_n 0, 1), (94, .iconst 0, 1), (95, .putfield 87, 3), (98, .return_, 1)]
theorem dt_Switch_refuseRead_c2 (i : Nat) : decode (jm_cod M_Switch_refuseRead) (tab_Switch_refuseRead_c2.getD i (89, .aload_n 1, 1)).1 = .ok ((tab_Switch_refuseRead_c2.getD i (89, .aload_n 1, 1)).2.1, (tab_Switch_refuseRead_c2.getD i (89, .aload_n 1, 1)).2.2) := j_tab (by decide +kernel) i
theorem d_Switch_refuseRead_89 : decode (jm_cod M_Switch_refuseRead) 89 = .ok (.aload_n 1, 1) := dt_Switch_refuseRead_c2 0
theorem d_Switch_refuseRead_90 : decode (jm_cod M_Switch_refuseRead) 90 = .ok (.invokevirtual 161, 3) := dt_Switch_refuseRead_c2 1
theorem d_Switch_refuseRead_93 : decode (jm_cod M_Switch_refuseRead) 93 = .ok (.aload_n 0, 1) := dt_Switch_refuseRead_c2 2
theorem d_Switch_refuseRead_94 : decode (jm_cod M_Switch_refuseRead) 94 = .ok (.iconst 0, 1) := dt_Switch_refuseRead_c2 3
theorem d_Switch_refuseRead_95 : decode (jm_cod M_Switch_refuseRead) 95 = .ok (.putfield 87, 3) := dt_Switch_refuseRead_c2 4
theorem d_Switch_refuseRead_98 : decode (jm_cod M_Switch_refuseRead) 98 = .ok (.return_, 1) := dt_Switch_refuseRead_c2 5
def tab_Switch_moveAnswer_c0 : List (Nat × Instr × Nat) := [(0, .aload_n 0, 1), (1, .iload_n 1, 1), (2, .iconst 2, 1), (3, .invokevirtual 107, 3), (6, .astore_n 2, 1), (7, .aload_n 2, 1), (8, .invokevirtual 127, 3), (11, .ifCond .eq 18, 3), (14, .aload_n 0, 1), (15, .iload_n 1, 1), (16, .iconst 2, 1), (17, .aload_n 0, 1), (18, .getfield 52, 3), (21, .iload_n 1, 1), (22, .iaload, 1), (23, .invokevirtual 244, 3), (26, .goto 4, 3), (29, .iconst (-1), 1), (30, .istore_n 3, 1), (31, .iload_n 3, 1), (32, .iconst (-1), 1), (33, .if_icmp .ne 4, 3), (36, .return_, 1), (37, .aload_n 0, 1)]
theorem dt_Switch_moveAnswer_c0 (i : Nat) : decode (jm_cod M_Switch_moveAnswer) (tab_Switch_moveAnswer_c0.getD i (0, .aload_n 0, 1)).1 = .ok ((tab_Switch_moveAnswer_c0.getD i (0, .aload_n 0, 1)).2.1, (tab_Switch_moveAnswer_c0.getD i (0, .aload_n 0, 1)).2.2) := j_tab (by decide +kernel) i
theorem d_Switch_moveAnswer_0 : decode (jm_cod M_Switch_moveAnswer) 0 = .ok (.aload_n 0, 1) := dt_Switch_moveAnswer_c0 0
theorem d_Switch_moveAnswer_1 : decode (jm_cod M_Switch_moveAnswer) 1 = .ok (.iload_n 1, 1) := dt_Switch_moveAnswer_c0 1
theorem d_Switch_moveAnswer_2 : decode (jm_cod M_Switch_moveAnswer) 2 = .ok (.iconst 2, 1) := dt_Switch_moveAnswer_c0 2
theorem d_Switch_moveAnswer_3 : decode (jm_cod M_Switch_moveAnswer) 3 = .ok (.invokevirtual 107, 3) := dt_Switch_moveAnswer_c0 3
theorem d_Switch_moveAnswer_6 : decode (jm_cod M_Switch_moveAnswer) 6 = .ok (.astore_n 2, 1) := dt_Switch_moveAnswer_c0 4
theorem d_Switch_moveAnswer_7 : decode (jm_cod M_Switch_moveAnswer) 7 = .ok (.aload_n 2, 1) := dt_Switch_moveAnswer_c0 5
theorem d_Switch_moveAnswer_8 : decode (jm_cod M_Switch_moveAnswer) 8 = .ok (.invokevirtual 127, 3) := dt_Switch_moveAnswer_c0 6
theorem d_Switch_moveAnswer_11 : decode (jm_cod M_Switch_moveAnswer) 11 = .ok (.ifCond .eq 18, 3) := dt_Switch_moveAnswer_c0 7
theorem d_Switch_moveAnswer_14 : decode (jm_cod M_Switch_moveAnswer) 14 = .ok (.aload_n 0, 1) := dt_Switch_moveAnswer_c0 8
theorem d_Switch_moveAnswer_15 : decode (jm_cod M_Switch_moveAnswer) 15 = .ok (.iload_n 1, 1) := dt_Switch_moveAnswer_c0 9
theorem d_Switch_moveAnswer_16 : decode (jm_cod M_Switch_moveAnswer) 16 = .ok (.iconst 2, 1) := dt_Switch_moveAnswer_c0 10
theorem d_Switch_moveAnswer_17 : decode (jm_cod M_Switch_moveAnswer) 17 = .ok (.aload_n 0, 1) := dt_Switch_moveAnswer_c0 11
theorem d_Switch_moveAnswer_18 : decode (jm_cod M_Switch_moveAnswer) 18 = .ok (.getfield 52, 3) := dt_Switch_moveAnswer_c0 12
theorem d_Switch_moveAnswer_21 : decode (jm_cod M_Switch_moveAnswer) 21 = .ok (.iload_n 1, 1) := dt_Switch_moveAnswer_c0 13
theorem d_Switch_moveAnswer_22 : decode (jm_cod M_Switch_moveAnswer) 22 = .ok (.iaload, 1) := dt_Switch_moveAnswer_c0 14
theorem d_Switch_moveAnswer_23 : decode (jm_cod M_Switch_moveAnswer) 23 = .ok (.invokevirtual 244, 3) := dt_Switch_moveAnswer_c0 15
theorem d_Switch_moveAnswer_26 : decode (jm_cod M_Switch_moveAnswer) 26 = .ok (.goto 4, 3) := dt_Switch_moveAnswer_c0 16
theorem d_Switch_moveAnswer_29 : decode (jm_cod M_Switch_moveAnswer) 29 = .ok (.iconst (-1), 1) := dt_Switch_moveAnswer_c0 17
theorem d_Switch_moveAnswer_30 : decode (jm_cod M_Switch_moveAnswer) 30 = .ok (.istore_n 3, 1) := dt_Switch_moveAnswer_c0 18
theorem d_Switch_moveAnswer_31 : decode (jm_cod M_Switch_moveAnswer) 31 = .ok (.iload_n 3, 1) := dt_Switch_moveAnswer_c0 19
theorem d_Switch_moveAnswer_32 : decode (jm_cod M_Switch_moveAnswer) 32 = .ok (.iconst (-1), 1) := dt_Switch_moveAnswer_c0 20
theorem d_Switch_moveAnswer_33 : decode (jm_cod M_Switch_moveAnswer) 33 = .ok (.if_icmp .ne 4, 3) := dt_Switch_moveAnswer_c0 21
theorem d_Switch_moveAnswer_36 : decode (jm_cod M_Switch_moveAnswer) 36 = .ok (.return_, 1) := dt_Switch_moveAnswer_c0 22
theorem d_Switch_moveAnswer_37 : decode (jm_cod M_Switch_moveAnswer) 37 = .ok (.aload_n 0, 1) := dt_Switch_moveAnswer_c0 23
def tab_Switch_moveAnswer_c1 : List (Nat × Instr × Nat) := [(38, .iload_n 3, 1), (39, .iconst 2, 1), (40, .invokevirtual 119, 3), (43, .aload_n 2, 1), (44, .invokestatic 247, 3), (47, .istore 4, 2), (49, .aload_n 0, 1), (50, .getfield 52, 3), (53, .iload_n 1, 1), (54, .iload_n 3, 1), (55, .iastore, 1), (56, .aload_n 0, 1), (57, .getfield 38, 3), (60, .iload_n 1, 1), (61, .aaload, 1), (62, .iload 4, 2), (64, .invokestatic 251, 3), (67, .invokevirtual 254, 3), (70, .return_, 1)]
theorem dt_Switch_moveAnswer_c1 (i : Nat) : decode (jm_cod M_Switch_moveAnswer) (tab_Switch_moveAnswer_c1.getD i (38, .iload_n 3, 1)).1 = .ok ((tab_Switch_moveAnswer_c1.getD i (38, .iload_n 3, 1)).2.1, (tab_Switch_moveAnswer_c1.getD i (38, .iload_n 3, 1)).2.2) := j_tab (by decide +kernel) i
theorem d_Switch_moveAnswer_38 : decode (jm_cod M_Switch_moveAnswer) 38 = .ok (.iload_n 3, 1) := dt_Switch_moveAnswer_c1 0
theorem d_Switch_moveAnswer_39 : decode (jm_cod M_Switch_moveAnswer) 39 = .ok (.iconst 2, 1) := dt_Switch_moveAnswer_c1 1
theorem d_Switch_moveAnswer_40 : decode (jm_cod M_Switch_moveAnswer) 40 = .ok (.invokevirtual 119, 3) := dt_Switch_moveAnswer_c1 2
theorem d_Switch_moveAnswer_43 : decode (jm_cod M_Switch_moveAnswer) 43 = .ok (.aload_n 2, 1) := dt_Switch_moveAnswer_c1 3
theorem d_Switch_moveAnswer_44 : decode (jm_cod M_Switch_moveAnswer) 44 = .ok (.invokestatic 247, 3) := dt_Switch_moveAnswer_c1 4
theorem d_Switch_moveAnswer_47 : decode (jm_cod M_Switch_moveAnswer) 47 = .ok (.istore 4, 2) := dt_Switch_moveAnswer_c1 5
theorem d_Switch_moveAnswer_49 : decode (jm_cod M_Switch_moveAnswer) 49 = .ok (.aload_n 0, 1) := dt_Switch_moveAnswer_c1 6
theorem d_Switch_moveAnswer_50 : decode (jm_cod M_Switch_moveAnswer) 50 = .ok (.getfield 52, 3) := dt_Switch_moveAnswer_c1 7
theorem d_Switch_moveAnswer_53 : decode (jm_cod M_Switch_moveAnswer) 53 = .ok (.iload_n 1, 1) := dt_Switch_moveAnswer_c1 8
theorem d_Switch_moveAnswer_54 : decode (jm_cod M_Switch_moveAnswer) 54 = .ok (.iload_n 3, 1) := dt_Switch_moveAnswer_c1 9
theorem d_Switch_moveAnswer_55 : decode (jm_cod M_Switch_moveAnswer) 55 = .ok (.iastore, 1) := dt_Switch_moveAnswer_c1 10
theorem d_Switch_moveAnswer_56 : decode (jm_cod M_Switch_moveAnswer) 56 = .ok (.aload_n 0, 1) := dt_Switch_moveAnswer_c1 11
theorem d_Switch_moveAnswer_57 : decode (jm_cod M_Switch_moveAnswer) 57 = .ok (.getfield 38, 3) := dt_Switch_moveAnswer_c1 12
theorem d_Switch_moveAnswer_60 : decode (jm_cod M_Switch_moveAnswer) 60 = .ok (.iload_n 1, 1) := dt_Switch_moveAnswer_c1 13
theorem d_Switch_moveAnswer_61 : decode (jm_cod M_Switch_moveAnswer) 61 = .ok (.aaload, 1) := dt_Switch_moveAnswer_c1 14
theorem d_Switch_moveAnswer_62 : decode (jm_cod M_Switch_moveAnswer) 62 = .ok (.iload 4, 2) := dt_Switch_moveAnswer_c1 15
theorem d_Switch_moveAnswer_64 : decode (jm_cod M_Switch_moveAnswer) 64 = .ok (.invokestatic 251, 3) := dt_Switch_moveAnswer_c1 16
theorem d_Switch_moveAnswer_67 : decode (jm_cod M_Switch_moveAnswer) 67 = .ok (.invokevirtual 254, 3) := dt_Switch_moveAnswer_c1 17
theorem d_Switch_moveAnswer_70 : decode (jm_cod M_Switch_moveAnswer) 70 = .ok (.return_, 1) := dt_Switch_moveAnswer_c1 18
def tab_Switch_giverFor_c0 : List (Nat × Instr × Nat) := [(0, .aload_n 0, 1), (1, .getfield 19, 3), (4, .iconst 1, 1), (5, .iadd, 1), (6, .istore 4, 2), (8, .iconst 0, 1), (9, .istore 5, 2), (11, .iload 5, 2), (13, .iload 4, 2), (15, .if_icmp .ge 34, 3), (18, .iload_n 3, 1), (19, .iconst 1, 1), (20, .iadd, 1), (21, .iload 5, 2), (23, .iadd, 1), (24, .iload 4, 2), (26, .irem, 1), (27, .istore 6, 2), (29, .aload_n 0, 1), (30, .iload 6, 2), (32, .iload_n 1, 1), (33, .iload_n 2, 1), (34, .invokevirtual 260, 3), (37, .ifCond .eq 6, 3)]
theorem dt_Switch_giverFor_c0 (i : Nat) : decode (jm_cod M_Switch_giverFor) (tab_Switch_giverFor_c0.getD i (0, .aload_n 0, 1)).1 = .ok ((tab_Switch_giverFor_c0.getD i (0, .aload_n 0, 1)).2.1, (tab_Switch_giverFor_c0.getD i (0, .aload_n 0, 1)).2.2) := j_tab (by decide +kernel) i
theorem d_Switch_giverFor_0 : decode (jm_cod M_Switch_giverFor) 0 = .ok (.aload_n 0, 1) := dt_Switch_giverFor_c0 0
theorem d_Switch_giverFor_1 : decode (jm_cod M_Switch_giverFor) 1 = .ok (.getfield 19, 3) := dt_Switch_giverFor_c0 1
theorem d_Switch_giverFor_4 : decode (jm_cod M_Switch_giverFor) 4 = .ok (.iconst 1, 1) := dt_Switch_giverFor_c0 2
theorem d_Switch_giverFor_5 : decode (jm_cod M_Switch_giverFor) 5 = .ok (.iadd, 1) := dt_Switch_giverFor_c0 3
theorem d_Switch_giverFor_6 : decode (jm_cod M_Switch_giverFor) 6 = .ok (.istore 4, 2) := dt_Switch_giverFor_c0 4
theorem d_Switch_giverFor_8 : decode (jm_cod M_Switch_giverFor) 8 = .ok (.iconst 0, 1) := dt_Switch_giverFor_c0 5
theorem d_Switch_giverFor_9 : decode (jm_cod M_Switch_giverFor) 9 = .ok (.istore 5, 2) := dt_Switch_giverFor_c0 6
theorem d_Switch_giverFor_11 : decode (jm_cod M_Switch_giverFor) 11 = .ok (.iload 5, 2) := dt_Switch_giverFor_c0 7
theorem d_Switch_giverFor_13 : decode (jm_cod M_Switch_giverFor) 13 = .ok (.iload 4, 2) := dt_Switch_giverFor_c0 8
theorem d_Switch_giverFor_15 : decode (jm_cod M_Switch_giverFor) 15 = .ok (.if_icmp .ge 34, 3) := dt_Switch_giverFor_c0 9
theorem d_Switch_giverFor_18 : decode (jm_cod M_Switch_giverFor) 18 = .ok (.iload_n 3, 1) := dt_Switch_giverFor_c0 10
theorem d_Switch_giverFor_19 : decode (jm_cod M_Switch_giverFor) 19 = .ok (.iconst 1, 1) := dt_Switch_giverFor_c0 11
theorem d_Switch_giverFor_20 : decode (jm_cod M_Switch_giverFor) 20 = .ok (.iadd, 1) := dt_Switch_giverFor_c0 12
theorem d_Switch_giverFor_21 : decode (jm_cod M_Switch_giverFor) 21 = .ok (.iload 5, 2) := dt_Switch_giverFor_c0 13
theorem d_Switch_giverFor_23 : decode (jm_cod M_Switch_giverFor) 23 = .ok (.iadd, 1) := dt_Switch_giverFor_c0 14
theorem d_Switch_giverFor_24 : decode (jm_cod M_Switch_giverFor) 24 = .ok (.iload 4, 2) := dt_Switch_giverFor_c0 15
theorem d_Switch_giverFor_26 : decode (jm_cod M_Switch_giverFor) 26 = .ok (.irem, 1) := dt_Switch_giverFor_c0 16
theorem d_Switch_giverFor_27 : decode (jm_cod M_Switch_giverFor) 27 = .ok (.istore 6, 2) := dt_Switch_giverFor_c0 17
theorem d_Switch_giverFor_29 : decode (jm_cod M_Switch_giverFor) 29 = .ok (.aload_n 0, 1) := dt_Switch_giverFor_c0 18
theorem d_Switch_giverFor_30 : decode (jm_cod M_Switch_giverFor) 30 = .ok (.iload 6, 2) := dt_Switch_giverFor_c0 19
theorem d_Switch_giverFor_32 : decode (jm_cod M_Switch_giverFor) 32 = .ok (.iload_n 1, 1) := dt_Switch_giverFor_c0 20
theorem d_Switch_giverFor_33 : decode (jm_cod M_Switch_giverFor) 33 = .ok (.iload_n 2, 1) := dt_Switch_giverFor_c0 21
theorem d_Switch_giverFor_34 : decode (jm_cod M_Switch_giverFor) 34 = .ok (.invokevirtual 260, 3) := dt_Switch_giverFor_c0 22
theorem d_Switch_giverFor_37 : decode (jm_cod M_Switch_giverFor) 37 = .ok (.ifCond .eq 6, 3) := dt_Switch_giverFor_c0 23
def tab_Switch_giverFor_c1 : List (Nat × Instr × Nat) := [(40, .iload 6, 2), (42, .ireturn, 1), (43, .iinc 5 1, 3), (46, .goto (-35), 3), (49, .iconst (-1), 1), (50, .ireturn, 1)]
theorem dt_Switch_giverFor_c1 (i : Nat) : decode (jm_cod M_Switch_giverFor) (tab_Switch_giverFor_c1.getD i (40, .iload 6, 2)).1 = .ok ((tab_Switch_giverFor_c1.getD i (40, .iload 6, 2)).2.1, (tab_Switch_giverFor_c1.getD i (40, .iload 6, 2)).2.2) := j_tab (by decide +kernel) i
theorem d_Switch_giverFor_40 : decode (jm_cod M_Switch_giverFor) 40 = .ok (.iload 6, 2) := dt_Switch_giverFor_c1 0
theorem d_Switch_giverFor_42 : decode (jm_cod M_Switch_giverFor) 42 = .ok (.ireturn, 1) := dt_Switch_giverFor_c1 1
theorem d_Switch_giverFor_43 : decode (jm_cod M_Switch_giverFor) 43 = .ok (.iinc 5 1, 3) := dt_Switch_giverFor_c1 2
theorem d_Switch_giverFor_46 : decode (jm_cod M_Switch_giverFor) 46 = .ok (.goto (-35), 3) := dt_Switch_giverFor_c1 3
theorem d_Switch_giverFor_49 : decode (jm_cod M_Switch_giverFor) 49 = .ok (.iconst (-1), 1) := dt_Switch_giverFor_c1 4
theorem d_Switch_giverFor_50 : decode (jm_cod M_Switch_giverFor) 50 = .ok (.ireturn, 1) := dt_Switch_giverFor_c1 5
def tab_Switch_gives_c0 : List (Nat × Instr × Nat) := [(0, .aload_n 0, 1), (1, .iload_n 1, 1), (2, .iload_n 3, 1), (3, .invokevirtual 119, 3), (6, .astore 4, 2), (8, .aload 4, 2), (10, .invokevirtual 131, 3), (13, .ifCond .eq 22, 3), (16, .aload 4, 2), (18, .invokevirtual 138, 3), (21, .invokestatic 251, 3), (24, .bipush 16, 2), (26, .idiv, 1), (27, .iload_n 2, 1), (28, .if_icmp .ne 7, 3), (31, .iconst 1, 1), (32, .goto 4, 3), (35, .iconst 0, 1), (36, .ireturn, 1)]
theorem dt_Switch_gives_c0 (i : Nat) : decode (jm_cod M_Switch_gives) (tab_Switch_gives_c0.getD i (0, .aload_n 0, 1)).1 = .ok ((tab_Switch_gives_c0.getD i (0, .aload_n 0, 1)).2.1, (tab_Switch_gives_c0.getD i (0, .aload_n 0, 1)).2.2) := j_tab (by decide +kernel) i
theorem d_Switch_gives_0 : decode (jm_cod M_Switch_gives) 0 = .ok (.aload_n 0, 1) := dt_Switch_gives_c0 0
theorem d_Switch_gives_1 : decode (jm_cod M_Switch_gives) 1 = .ok (.iload_n 1, 1) := dt_Switch_gives_c0 1
theorem d_Switch_gives_2 : decode (jm_cod M_Switch_gives) 2 = .ok (.iload_n 3, 1) := dt_Switch_gives_c0 2
theorem d_Switch_gives_3 : decode (jm_cod M_Switch_gives) 3 = .ok (.invokevirtual 119, 3) := dt_Switch_gives_c0 3
theorem d_Switch_gives_6 : decode (jm_cod M_Switch_gives) 6 = .ok (.astore 4, 2) := dt_Switch_gives_c0 4
theorem d_Switch_gives_8 : decode (jm_cod M_Switch_gives) 8 = .ok (.aload 4, 2) := dt_Switch_gives_c0 5
theorem d_Switch_gives_10 : decode (jm_cod M_Switch_gives) 10 = .ok (.invokevirtual 131, 3) := dt_Switch_gives_c0 6
theorem d_Switch_gives_13 : decode (jm_cod M_Switch_gives) 13 = .ok (.ifCond .eq 22, 3) := dt_Switch_gives_c0 7
theorem d_Switch_gives_16 : decode (jm_cod M_Switch_gives) 16 = .ok (.aload 4, 2) := dt_Switch_gives_c0 8
theorem d_Switch_gives_18 : decode (jm_cod M_Switch_gives) 18 = .ok (.invokevirtual 138, 3) := dt_Switch_gives_c0 9
theorem d_Switch_gives_21 : decode (jm_cod M_Switch_gives) 21 = .ok (.invokestatic 251, 3) := dt_Switch_gives_c0 10
theorem d_Switch_gives_24 : decode (jm_cod M_Switch_gives) 24 = .ok (.bipush 16, 2) := dt_Switch_gives_c0 11
theorem d_Switch_gives_26 : decode (jm_cod M_Switch_gives) 26 = .ok (.idiv, 1) := dt_Switch_gives_c0 12
theorem d_Switch_gives_27 : decode (jm_cod M_Switch_gives) 27 = .ok (.iload_n 2, 1) := dt_Switch_gives_c0 13
theorem d_Switch_gives_28 : decode (jm_cod M_Switch_gives) 28 = .ok (.if_icmp .ne 7, 3) := dt_Switch_gives_c0 14
theorem d_Switch_gives_31 : decode (jm_cod M_Switch_gives) 31 = .ok (.iconst 1, 1) := dt_Switch_gives_c0 15
theorem d_Switch_gives_32 : decode (jm_cod M_Switch_gives) 32 = .ok (.goto 4, 3) := dt_Switch_gives_c0 16
theorem d_Switch_gives_35 : decode (jm_cod M_Switch_gives) 35 = .ok (.iconst 0, 1) := dt_Switch_gives_c0 17
theorem d_Switch_gives_36 : decode (jm_cod M_Switch_gives) 36 = .ok (.ireturn, 1) := dt_Switch_gives_c0 18
def tab_Switch_moveBack_c0 : List (Nat × Instr × Nat) := [(0, .aload_n 0, 1), (1, .invokevirtual 138, 3), (4, .bipush (-49), 2), (6, .iand, 1), (7, .istore_n 2, 1), (8, .aload_n 1, 1), (9, .aload_n 0, 1), (10, .invokevirtual 134, 3), (13, .iload_n 2, 1), (14, .iconst 0, 1), (15, .invokevirtual 157, 3), (18, .aload_n 0, 1), (19, .invokevirtual 161, 3), (22, .iload_n 2, 1), (23, .ireturn, 1)]
theorem dt_Switch_moveBack_c0 (i : Nat) : decode (jm_cod M_Switch_moveBack) (tab_Switch_moveBack_c0.getD i (0, .aload_n 0, 1)).1 = .ok ((tab_Switch_moveBack_c0.getD i (0, .aload_n 0, 1)).2.1, (tab_Switch_moveBack_c0.getD i (0, .aload_n 0, 1)).2.2) := j_tab (by decide +kernel) i
theorem d_Switch_moveBack_0 : decode (jm_cod M_Switch_moveBack) 0 = .ok (.aload_n 0, 1) := dt_Switch_moveBack_c0 0
theorem d_Switch_moveBack_1 : decode (jm_cod M_Switch_moveBack) 1 = .ok (.invokevirtual 138, 3) := dt_Switch_moveBack_c0 1
theorem d_Switch_moveBack_4 : decode (jm_cod M_Switch_moveBack) 4 = .ok (.bipush (-49), 2) := dt_Switch_moveBack_c0 2
theorem d_Switch_moveBack_6 : decode (jm_cod M_Switch_moveBack) 6 = .ok (.iand, 1) := dt_Switch_moveBack_c0 3
theorem d_Switch_moveBack_7 : decode (jm_cod M_Switch_moveBack) 7 = .ok (.istore_n 2, 1) := dt_Switch_moveBack_c0 4
theorem d_Switch_moveBack_8 : decode (jm_cod M_Switch_moveBack) 8 = .ok (.aload_n 1, 1) := dt_Switch_moveBack_c0 5
theorem d_Switch_moveBack_9 : decode (jm_cod M_Switch_moveBack) 9 = .ok (.aload_n 0, 1) := dt_Switch_moveBack_c0 6
theorem d_Switch_moveBack_10 : decode (jm_cod M_Switch_moveBack) 10 = .ok (.invokevirtual 134, 3) := dt_Switch_moveBack_c0 7
theorem d_Switch_moveBack_13 : decode (jm_cod M_Switch_moveBack) 13 = .ok (.iload_n 2, 1) := dt_Switch_moveBack_c0 8
theorem d_Switch_moveBack_14 : decode (jm_cod M_Switch_moveBack) 14 = .ok (.iconst 0, 1) := dt_Switch_moveBack_c0 9
theorem d_Switch_moveBack_15 : decode (jm_cod M_Switch_moveBack) 15 = .ok (.invokevirtual 157, 3) := dt_Switch_moveBack_c0 10
theorem d_Switch_moveBack_18 : decode (jm_cod M_Switch_moveBack) 18 = .ok (.aload_n 0, 1) := dt_Switch_moveBack_c0 11
theorem d_Switch_moveBack_19 : decode (jm_cod M_Switch_moveBack) 19 = .ok (.invokevirtual 161, 3) := dt_Switch_moveBack_c0 12
theorem d_Switch_moveBack_22 : decode (jm_cod M_Switch_moveBack) 22 = .ok (.iload_n 2, 1) := dt_Switch_moveBack_c0 13
theorem d_Switch_moveBack_23 : decode (jm_cod M_Switch_moveBack) 23 = .ok (.ireturn, 1) := dt_Switch_moveBack_c0 14
def tab_Switch_moveReadBeat_c0 : List (Nat × Instr × Nat) := [(0, .aload_n 0, 1), (1, .iload_n 1, 1), (2, .iconst 4, 1), (3, .invokevirtual 107, 3), (6, .astore_n 2, 1), (7, .aload_n 2, 1), (8, .invokevirtual 127, 3), (11, .ifCond .eq 11, 3), (14, .aload_n 0, 1), (15, .iload_n 1, 1), (16, .invokevirtual 257, 3), (19, .goto 4, 3), (22, .iconst (-1), 1), (23, .istore_n 3, 1), (24, .iload_n 3, 1), (25, .iconst (-1), 1), (26, .if_icmp .ne 4, 3), (29, .return_, 1), (30, .aload_n 0, 1), (31, .iload_n 3, 1), (32, .iconst 4, 1), (33, .invokevirtual 119, 3), (36, .aload_n 2, 1), (37, .invokestatic 247, 3)]
theorem dt_Switch_moveReadBeat_c0 (i : Nat) : decode (jm_cod M_Switch_moveReadBeat) (tab_Switch_moveReadBeat_c0.getD i (0, .aload_n 0, 1)).1 = .ok ((tab_Switch_moveReadBeat_c0.getD i (0, .aload_n 0, 1)).2.1, (tab_Switch_moveReadBeat_c0.getD i (0, .aload_n 0, 1)).2.2) := j_tab (by decide +kernel) i
theorem d_Switch_moveReadBeat_0 : decode (jm_cod M_Switch_moveReadBeat) 0 = .ok (.aload_n 0, 1) := dt_Switch_moveReadBeat_c0 0
theorem d_Switch_moveReadBeat_1 : decode (jm_cod M_Switch_moveReadBeat) 1 = .ok (.iload_n 1, 1) := dt_Switch_moveReadBeat_c0 1
theorem d_Switch_moveReadBeat_2 : decode (jm_cod M_Switch_moveReadBeat) 2 = .ok (.iconst 4, 1) := dt_Switch_moveReadBeat_c0 2
theorem d_Switch_moveReadBeat_3 : decode (jm_cod M_Switch_moveReadBeat) 3 = .ok (.invokevirtual 107, 3) := dt_Switch_moveReadBeat_c0 3
theorem d_Switch_moveReadBeat_6 : decode (jm_cod M_Switch_moveReadBeat) 6 = .ok (.astore_n 2, 1) := dt_Switch_moveReadBeat_c0 4
theorem d_Switch_moveReadBeat_7 : decode (jm_cod M_Switch_moveReadBeat) 7 = .ok (.aload_n 2, 1) := dt_Switch_moveReadBeat_c0 5
theorem d_Switch_moveReadBeat_8 : decode (jm_cod M_Switch_moveReadBeat) 8 = .ok (.invokevirtual 127, 3) := dt_Switch_moveReadBeat_c0 6
theorem d_Switch_moveReadBeat_11 : decode (jm_cod M_Switch_moveReadBeat) 11 = .ok (.ifCond .eq 11, 3) := dt_Switch_moveReadBeat_c0 7
theorem d_Switch_moveReadBeat_14 : decode (jm_cod M_Switch_moveReadBeat) 14 = .ok (.aload_n 0, 1) := dt_Switch_moveReadBeat_c0 8
theorem d_Switch_moveReadBeat_15 : decode (jm_cod M_Switch_moveReadBeat) 15 = .ok (.iload_n 1, 1) := dt_Switch_moveReadBeat_c0 9
theorem d_Switch_moveReadBeat_16 : decode (jm_cod M_Switch_moveReadBeat) 16 = .ok (.invokevirtual 257, 3) := dt_Switch_moveReadBeat_c0 10
theorem d_Switch_moveReadBeat_19 : decode (jm_cod M_Switch_moveReadBeat) 19 = .ok (.goto 4, 3) := dt_Switch_moveReadBeat_c0 11
theorem d_Switch_moveReadBeat_22 : decode (jm_cod M_Switch_moveReadBeat) 22 = .ok (.iconst (-1), 1) := dt_Switch_moveReadBeat_c0 12
theorem d_Switch_moveReadBeat_23 : decode (jm_cod M_Switch_moveReadBeat) 23 = .ok (.istore_n 3, 1) := dt_Switch_moveReadBeat_c0 13
theorem d_Switch_moveReadBeat_24 : decode (jm_cod M_Switch_moveReadBeat) 24 = .ok (.iload_n 3, 1) := dt_Switch_moveReadBeat_c0 14
theorem d_Switch_moveReadBeat_25 : decode (jm_cod M_Switch_moveReadBeat) 25 = .ok (.iconst (-1), 1) := dt_Switch_moveReadBeat_c0 15
theorem d_Switch_moveReadBeat_26 : decode (jm_cod M_Switch_moveReadBeat) 26 = .ok (.if_icmp .ne 4, 3) := dt_Switch_moveReadBeat_c0 16
theorem d_Switch_moveReadBeat_29 : decode (jm_cod M_Switch_moveReadBeat) 29 = .ok (.return_, 1) := dt_Switch_moveReadBeat_c0 17
theorem d_Switch_moveReadBeat_30 : decode (jm_cod M_Switch_moveReadBeat) 30 = .ok (.aload_n 0, 1) := dt_Switch_moveReadBeat_c0 18
theorem d_Switch_moveReadBeat_31 : decode (jm_cod M_Switch_moveReadBeat) 31 = .ok (.iload_n 3, 1) := dt_Switch_moveReadBeat_c0 19
theorem d_Switch_moveReadBeat_32 : decode (jm_cod M_Switch_moveReadBeat) 32 = .ok (.iconst 4, 1) := dt_Switch_moveReadBeat_c0 20
theorem d_Switch_moveReadBeat_33 : decode (jm_cod M_Switch_moveReadBeat) 33 = .ok (.invokevirtual 119, 3) := dt_Switch_moveReadBeat_c0 21
theorem d_Switch_moveReadBeat_36 : decode (jm_cod M_Switch_moveReadBeat) 36 = .ok (.aload_n 2, 1) := dt_Switch_moveReadBeat_c0 22
theorem d_Switch_moveReadBeat_37 : decode (jm_cod M_Switch_moveReadBeat) 37 = .ok (.invokestatic 247, 3) := dt_Switch_moveReadBeat_c0 23
def tab_Switch_moveReadBeat_c1 : List (Nat × Instr × Nat) := [(40, .istore 4, 2), (42, .aload_n 0, 1), (43, .getfield 55, 3), (46, .iload_n 1, 1), (47, .iload_n 3, 1), (48, .iastore, 1), (49, .aload_n 0, 1), (50, .getfield 58, 3), (53, .iload_n 1, 1), (54, .iload 4, 2), (56, .invokestatic 237, 3), (59, .ifCond .ne 7, 3), (62, .iconst 1, 1), (63, .goto 4, 3), (66, .iconst 0, 1), (67, .bastore, 1), (68, .iload 4, 2), (70, .invokestatic 237, 3), (73, .ifCond .eq 17, 3), (76, .aload_n 0, 1), (77, .getfield 42, 3), (80, .iload_n 1, 1), (81, .aaload, 1), (82, .iload 4, 2)]
theorem dt_Switch_moveReadBeat_c1 (i : Nat) : decode (jm_cod M_Switch_moveReadBeat) (tab_Switch_moveReadBeat_c1.getD i (40, .istore 4, 2)).1 = .ok ((tab_Switch_moveReadBeat_c1.getD i (40, .istore 4, 2)).2.1, (tab_Switch_moveReadBeat_c1.getD i (40, .istore 4, 2)).2.2) := j_tab (by decide +kernel) i
theorem d_Switch_moveReadBeat_40 : decode (jm_cod M_Switch_moveReadBeat) 40 = .ok (.istore 4, 2) := dt_Switch_moveReadBeat_c1 0
theorem d_Switch_moveReadBeat_42 : decode (jm_cod M_Switch_moveReadBeat) 42 = .ok (.aload_n 0, 1) := dt_Switch_moveReadBeat_c1 1
theorem d_Switch_moveReadBeat_43 : decode (jm_cod M_Switch_moveReadBeat) 43 = .ok (.getfield 55, 3) := dt_Switch_moveReadBeat_c1 2
theorem d_Switch_moveReadBeat_46 : decode (jm_cod M_Switch_moveReadBeat) 46 = .ok (.iload_n 1, 1) := dt_Switch_moveReadBeat_c1 3
theorem d_Switch_moveReadBeat_47 : decode (jm_cod M_Switch_moveReadBeat) 47 = .ok (.iload_n 3, 1) := dt_Switch_moveReadBeat_c1 4
theorem d_Switch_moveReadBeat_48 : decode (jm_cod M_Switch_moveReadBeat) 48 = .ok (.iastore, 1) := dt_Switch_moveReadBeat_c1 5
theorem d_Switch_moveReadBeat_49 : decode (jm_cod M_Switch_moveReadBeat) 49 = .ok (.aload_n 0, 1) := dt_Switch_moveReadBeat_c1 6
theorem d_Switch_moveReadBeat_50 : decode (jm_cod M_Switch_moveReadBeat) 50 = .ok (.getfield 58, 3) := dt_Switch_moveReadBeat_c1 7
theorem d_Switch_moveReadBeat_53 : decode (jm_cod M_Switch_moveReadBeat) 53 = .ok (.iload_n 1, 1) := dt_Switch_moveReadBeat_c1 8
theorem d_Switch_moveReadBeat_54 : decode (jm_cod M_Switch_moveReadBeat) 54 = .ok (.iload 4, 2) := dt_Switch_moveReadBeat_c1 9
theorem d_Switch_moveReadBeat_56 : decode (jm_cod M_Switch_moveReadBeat) 56 = .ok (.invokestatic 237, 3) := dt_Switch_moveReadBeat_c1 10
theorem d_Switch_moveReadBeat_59 : decode (jm_cod M_Switch_moveReadBeat) 59 = .ok (.ifCond .ne 7, 3) := dt_Switch_moveReadBeat_c1 11
theorem d_Switch_moveReadBeat_62 : decode (jm_cod M_Switch_moveReadBeat) 62 = .ok (.iconst 1, 1) := dt_Switch_moveReadBeat_c1 12
theorem d_Switch_moveReadBeat_63 : decode (jm_cod M_Switch_moveReadBeat) 63 = .ok (.goto 4, 3) := dt_Switch_moveReadBeat_c1 13
theorem d_Switch_moveReadBeat_66 : decode (jm_cod M_Switch_moveReadBeat) 66 = .ok (.iconst 0, 1) := dt_Switch_moveReadBeat_c1 14
theorem d_Switch_moveReadBeat_67 : decode (jm_cod M_Switch_moveReadBeat) 67 = .ok (.bastore, 1) := dt_Switch_moveReadBeat_c1 15
theorem d_Switch_moveReadBeat_68 : decode (jm_cod M_Switch_moveReadBeat) 68 = .ok (.iload 4, 2) := dt_Switch_moveReadBeat_c1 16
theorem d_Switch_moveReadBeat_70 : decode (jm_cod M_Switch_moveReadBeat) 70 = .ok (.invokestatic 237, 3) := dt_Switch_moveReadBeat_c1 17
theorem d_Switch_moveReadBeat_73 : decode (jm_cod M_Switch_moveReadBeat) 73 = .ok (.ifCond .eq 17, 3) := dt_Switch_moveReadBeat_c1 18
theorem d_Switch_moveReadBeat_76 : decode (jm_cod M_Switch_moveReadBeat) 76 = .ok (.aload_n 0, 1) := dt_Switch_moveReadBeat_c1 19
theorem d_Switch_moveReadBeat_77 : decode (jm_cod M_Switch_moveReadBeat) 77 = .ok (.getfield 42, 3) := dt_Switch_moveReadBeat_c1 20
theorem d_Switch_moveReadBeat_80 : decode (jm_cod M_Switch_moveReadBeat) 80 = .ok (.iload_n 1, 1) := dt_Switch_moveReadBeat_c1 21
theorem d_Switch_moveReadBeat_81 : decode (jm_cod M_Switch_moveReadBeat) 81 = .ok (.aaload, 1) := dt_Switch_moveReadBeat_c1 22
theorem d_Switch_moveReadBeat_82 : decode (jm_cod M_Switch_moveReadBeat) 82 = .ok (.iload 4, 2) := dt_Switch_moveReadBeat_c1 23
def tab_Switch_moveReadBeat_c2 : List (Nat × Instr × Nat) := [(84, .invokestatic 251, 3), (87, .invokevirtual 254, 3), (90, .return_, 1)]
theorem dt_Switch_moveReadBeat_c2 (i : Nat) : decode (jm_cod M_Switch_moveReadBeat) (tab_Switch_moveReadBeat_c2.getD i (84, .invokestatic 251, 3)).1 = .ok ((tab_Switch_moveReadBeat_c2.getD i (84, .invokestatic 251, 3)).2.1, (tab_Switch_moveReadBeat_c2.getD i (84, .invokestatic 251, 3)).2.2) := j_tab (by decide +kernel) i
theorem d_Switch_moveReadBeat_84 : decode (jm_cod M_Switch_moveReadBeat) 84 = .ok (.invokestatic 251, 3) := dt_Switch_moveReadBeat_c2 0
theorem d_Switch_moveReadBeat_87 : decode (jm_cod M_Switch_moveReadBeat) 87 = .ok (.invokevirtual 254, 3) := dt_Switch_moveReadBeat_c2 1
theorem d_Switch_moveReadBeat_90 : decode (jm_cod M_Switch_moveReadBeat) 90 = .ok (.return_, 1) := dt_Switch_moveReadBeat_c2 2
def tab_Switch_readGiverFor_c0 : List (Nat × Instr × Nat) := [(0, .aload_n 0, 1), (1, .getfield 55, 3), (4, .iload_n 1, 1), (5, .iaload, 1), (6, .istore_n 2, 1), (7, .aload_n 0, 1), (8, .getfield 83, 3), (11, .ifCond .eq 33, 3), (14, .aload_n 0, 1), (15, .getfield 58, 3), (18, .iload_n 1, 1), (19, .baload, 1), (20, .ifCond .eq 24, 3), (23, .iload_n 2, 1), (24, .iconst (-1), 1), (25, .if_icmp .eq 19, 3), (28, .aload_n 0, 1), (29, .iload_n 2, 1), (30, .iload_n 1, 1), (31, .iconst 4, 1), (32, .invokevirtual 260, 3), (35, .ifCond .eq 7, 3), (38, .iload_n 2, 1), (39, .goto 4, 3)]
theorem dt_Switch_readGiverFor_c0 (i : Nat) : decode (jm_cod M_Switch_readGiverFor) (tab_Switch_readGiverFor_c0.getD i (0, .aload_n 0, 1)).1 = .ok ((tab_Switch_readGiverFor_c0.getD i (0, .aload_n 0, 1)).2.1, (tab_Switch_readGiverFor_c0.getD i (0, .aload_n 0, 1)).2.2) := j_tab (by decide +kernel) i
theorem d_Switch_readGiverFor_0 : decode (jm_cod M_Switch_readGiverFor) 0 = .ok (.aload_n 0, 1) := dt_Switch_readGiverFor_c0 0
theorem d_Switch_readGiverFor_1 : decode (jm_cod M_Switch_readGiverFor) 1 = .ok (.getfield 55, 3) := dt_Switch_readGiverFor_c0 1
theorem d_Switch_readGiverFor_4 : decode (jm_cod M_Switch_readGiverFor) 4 = .ok (.iload_n 1, 1) := dt_Switch_readGiverFor_c0 2
theorem d_Switch_readGiverFor_5 : decode (jm_cod M_Switch_readGiverFor) 5 = .ok (.iaload, 1) := dt_Switch_readGiverFor_c0 3
theorem d_Switch_readGiverFor_6 : decode (jm_cod M_Switch_readGiverFor) 6 = .ok (.istore_n 2, 1) := dt_Switch_readGiverFor_c0 4
theorem d_Switch_readGiverFor_7 : decode (jm_cod M_Switch_readGiverFor) 7 = .ok (.aload_n 0, 1) := dt_Switch_readGiverFor_c0 5
theorem d_Switch_readGiverFor_8 : decode (jm_cod M_Switch_readGiverFor) 8 = .ok (.getfield 83, 3) := dt_Switch_readGiverFor_c0 6
theorem d_Switch_readGiverFor_11 : decode (jm_cod M_Switch_readGiverFor) 11 = .ok (.ifCond .eq 33, 3) := dt_Switch_readGiverFor_c0 7
theorem d_Switch_readGiverFor_14 : decode (jm_cod M_Switch_readGiverFor) 14 = .ok (.aload_n 0, 1) := dt_Switch_readGiverFor_c0 8
theorem d_Switch_readGiverFor_15 : decode (jm_cod M_Switch_readGiverFor) 15 = .ok (.getfield 58, 3) := dt_Switch_readGiverFor_c0 9
theorem d_Switch_readGiverFor_18 : decode (jm_cod M_Switch_readGiverFor) 18 = .ok (.iload_n 1, 1) := dt_Switch_readGiverFor_c0 10
theorem d_Switch_readGiverFor_19 : decode (jm_cod M_Switch_readGiverFor) 19 = .ok (.baload, 1) := dt_Switch_readGiverFor_c0 11
theorem d_Switch_readGiverFor_20 : decode (jm_cod M_Switch_readGiverFor) 20 = .ok (.ifCond .eq 24, 3) := dt_Switch_readGiverFor_c0 12
theorem d_Switch_readGiverFor_23 : decode (jm_cod M_Switch_readGiverFor) 23 = .ok (.iload_n 2, 1) := dt_Switch_readGiverFor_c0 13
theorem d_Switch_readGiverFor_24 : decode (jm_cod M_Switch_readGiverFor) 24 = .ok (.iconst (-1), 1) := dt_Switch_readGiverFor_c0 14
theorem d_Switch_readGiverFor_25 : decode (jm_cod M_Switch_readGiverFor) 25 = .ok (.if_icmp .eq 19, 3) := dt_Switch_readGiverFor_c0 15
theorem d_Switch_readGiverFor_28 : decode (jm_cod M_Switch_readGiverFor) 28 = .ok (.aload_n 0, 1) := dt_Switch_readGiverFor_c0 16
theorem d_Switch_readGiverFor_29 : decode (jm_cod M_Switch_readGiverFor) 29 = .ok (.iload_n 2, 1) := dt_Switch_readGiverFor_c0 17
theorem d_Switch_readGiverFor_30 : decode (jm_cod M_Switch_readGiverFor) 30 = .ok (.iload_n 1, 1) := dt_Switch_readGiverFor_c0 18
theorem d_Switch_readGiverFor_31 : decode (jm_cod M_Switch_readGiverFor) 31 = .ok (.iconst 4, 1) := dt_Switch_readGiverFor_c0 19
theorem d_Switch_readGiverFor_32 : decode (jm_cod M_Switch_readGiverFor) 32 = .ok (.invokevirtual 260, 3) := dt_Switch_readGiverFor_c0 20
theorem d_Switch_readGiverFor_35 : decode (jm_cod M_Switch_readGiverFor) 35 = .ok (.ifCond .eq 7, 3) := dt_Switch_readGiverFor_c0 21
theorem d_Switch_readGiverFor_38 : decode (jm_cod M_Switch_readGiverFor) 38 = .ok (.iload_n 2, 1) := dt_Switch_readGiverFor_c0 22
theorem d_Switch_readGiverFor_39 : decode (jm_cod M_Switch_readGiverFor) 39 = .ok (.goto 4, 3) := dt_Switch_readGiverFor_c0 23
def tab_Switch_readGiverFor_c1 : List (Nat × Instr × Nat) := [(42, .iconst (-1), 1), (43, .ireturn, 1), (44, .aload_n 0, 1), (45, .iload_n 1, 1), (46, .iconst 4, 1), (47, .iload_n 2, 1), (48, .invokevirtual 244, 3), (51, .ireturn, 1)]
theorem dt_Switch_readGiverFor_c1 (i : Nat) : decode (jm_cod M_Switch_readGiverFor) (tab_Switch_readGiverFor_c1.getD i (42, .iconst (-1), 1)).1 = .ok ((tab_Switch_readGiverFor_c1.getD i (42, .iconst (-1), 1)).2.1, (tab_Switch_readGiverFor_c1.getD i (42, .iconst (-1), 1)).2.2) := j_tab (by decide +kernel) i
theorem d_Switch_readGiverFor_42 : decode (jm_cod M_Switch_readGiverFor) 42 = .ok (.iconst (-1), 1) := dt_Switch_readGiverFor_c1 0
theorem d_Switch_readGiverFor_43 : decode (jm_cod M_Switch_readGiverFor) 43 = .ok (.ireturn, 1) := dt_Switch_readGiverFor_c1 1
theorem d_Switch_readGiverFor_44 : decode (jm_cod M_Switch_readGiverFor) 44 = .ok (.aload_n 0, 1) := dt_Switch_readGiverFor_c1 2
theorem d_Switch_readGiverFor_45 : decode (jm_cod M_Switch_readGiverFor) 45 = .ok (.iload_n 1, 1) := dt_Switch_readGiverFor_c1 3
theorem d_Switch_readGiverFor_46 : decode (jm_cod M_Switch_readGiverFor) 46 = .ok (.iconst 4, 1) := dt_Switch_readGiverFor_c1 4
theorem d_Switch_readGiverFor_47 : decode (jm_cod M_Switch_readGiverFor) 47 = .ok (.iload_n 2, 1) := dt_Switch_readGiverFor_c1 5
theorem d_Switch_readGiverFor_48 : decode (jm_cod M_Switch_readGiverFor) 48 = .ok (.invokevirtual 244, 3) := dt_Switch_readGiverFor_c1 6
theorem d_Switch_readGiverFor_51 : decode (jm_cod M_Switch_readGiverFor) 51 = .ok (.ireturn, 1) := dt_Switch_readGiverFor_c1 7
def tab_Switch_underWayTo_c0 : List (Nat × Instr × Nat) := [(0, .iconst 0, 1), (1, .istore_n 3, 1), (2, .iconst 0, 1), (3, .istore 4, 2), (5, .iload 4, 2), (7, .aload_n 0, 1), (8, .getfield 15, 3), (11, .if_icmp .ge 23, 3), (14, .iload_n 3, 1), (15, .aload_n 0, 1), (16, .iload 4, 2), (18, .iload_n 2, 1), (19, .invokevirtual 99, 3), (22, .iload_n 1, 1), (23, .invokevirtual 103, 3), (26, .iadd, 1), (27, .istore_n 3, 1), (28, .iinc 4 1, 3), (31, .goto (-26), 3), (34, .iload_n 3, 1), (35, .ireturn, 1)]
theorem dt_Switch_underWayTo_c0 (i : Nat) : decode (jm_cod M_Switch_underWayTo) (tab_Switch_underWayTo_c0.getD i (0, .iconst 0, 1)).1 = .ok ((tab_Switch_underWayTo_c0.getD i (0, .iconst 0, 1)).2.1, (tab_Switch_underWayTo_c0.getD i (0, .iconst 0, 1)).2.2) := j_tab (by decide +kernel) i
theorem d_Switch_underWayTo_0 : decode (jm_cod M_Switch_underWayTo) 0 = .ok (.iconst 0, 1) := dt_Switch_underWayTo_c0 0
theorem d_Switch_underWayTo_1 : decode (jm_cod M_Switch_underWayTo) 1 = .ok (.istore_n 3, 1) := dt_Switch_underWayTo_c0 1
theorem d_Switch_underWayTo_2 : decode (jm_cod M_Switch_underWayTo) 2 = .ok (.iconst 0, 1) := dt_Switch_underWayTo_c0 2
theorem d_Switch_underWayTo_3 : decode (jm_cod M_Switch_underWayTo) 3 = .ok (.istore 4, 2) := dt_Switch_underWayTo_c0 3
theorem d_Switch_underWayTo_5 : decode (jm_cod M_Switch_underWayTo) 5 = .ok (.iload 4, 2) := dt_Switch_underWayTo_c0 4
theorem d_Switch_underWayTo_7 : decode (jm_cod M_Switch_underWayTo) 7 = .ok (.aload_n 0, 1) := dt_Switch_underWayTo_c0 5
theorem d_Switch_underWayTo_8 : decode (jm_cod M_Switch_underWayTo) 8 = .ok (.getfield 15, 3) := dt_Switch_underWayTo_c0 6
theorem d_Switch_underWayTo_11 : decode (jm_cod M_Switch_underWayTo) 11 = .ok (.if_icmp .ge 23, 3) := dt_Switch_underWayTo_c0 7
theorem d_Switch_underWayTo_14 : decode (jm_cod M_Switch_underWayTo) 14 = .ok (.iload_n 3, 1) := dt_Switch_underWayTo_c0 8
theorem d_Switch_underWayTo_15 : decode (jm_cod M_Switch_underWayTo) 15 = .ok (.aload_n 0, 1) := dt_Switch_underWayTo_c0 9
theorem d_Switch_underWayTo_16 : decode (jm_cod M_Switch_underWayTo) 16 = .ok (.iload 4, 2) := dt_Switch_underWayTo_c0 10
theorem d_Switch_underWayTo_18 : decode (jm_cod M_Switch_underWayTo) 18 = .ok (.iload_n 2, 1) := dt_Switch_underWayTo_c0 11
theorem d_Switch_underWayTo_19 : decode (jm_cod M_Switch_underWayTo) 19 = .ok (.invokevirtual 99, 3) := dt_Switch_underWayTo_c0 12
theorem d_Switch_underWayTo_22 : decode (jm_cod M_Switch_underWayTo) 22 = .ok (.iload_n 1, 1) := dt_Switch_underWayTo_c0 13
theorem d_Switch_underWayTo_23 : decode (jm_cod M_Switch_underWayTo) 23 = .ok (.invokevirtual 103, 3) := dt_Switch_underWayTo_c0 14
theorem d_Switch_underWayTo_26 : decode (jm_cod M_Switch_underWayTo) 26 = .ok (.iadd, 1) := dt_Switch_underWayTo_c0 15
theorem d_Switch_underWayTo_27 : decode (jm_cod M_Switch_underWayTo) 27 = .ok (.istore_n 3, 1) := dt_Switch_underWayTo_c0 16
theorem d_Switch_underWayTo_28 : decode (jm_cod M_Switch_underWayTo) 28 = .ok (.iinc 4 1, 3) := dt_Switch_underWayTo_c0 17
theorem d_Switch_underWayTo_31 : decode (jm_cod M_Switch_underWayTo) 31 = .ok (.goto (-26), 3) := dt_Switch_underWayTo_c0 18
theorem d_Switch_underWayTo_34 : decode (jm_cod M_Switch_underWayTo) 34 = .ok (.iload_n 3, 1) := dt_Switch_underWayTo_c0 19
theorem d_Switch_underWayTo_35 : decode (jm_cod M_Switch_underWayTo) 35 = .ok (.ireturn, 1) := dt_Switch_underWayTo_c0 20
