def tab_Ref_request_c10 : List (Nat × Instr × Nat) := [(404, .getfield 70, 3), (407, .iload 7, 2), (409, .aload_n 0, 1), (410, .getfield 348, 3), (413, .iastore, 1), (414, .aload_n 0, 1), (415, .getfield 73, 3), (418, .iload 7, 2), (420, .iconst (-1), 1), (421, .iastore, 1), (422, .aload_n 0, 1), (423, .getfield 76, 3), (426, .iload 7, 2), (428, .iconst (-1), 1), (429, .iastore, 1), (430, .aload_n 0, 1), (431, .getfield 79, 3), (434, .iload 7, 2), (436, .iconst 0, 1), (437, .iastore, 1), (438, .aload_n 0, 1), (439, .getfield 82, 3), (442, .iload 7, 2), (444, .iconst 0, 1)]
theorem dt_Ref_request_c10 (i : Nat) : decode (jm_cod M_Ref_request) (tab_Ref_request_c10.getD i (404, .getfield 70, 3)).1 = .ok ((tab_Ref_request_c10.getD i (404, .getfield 70, 3)).2.1, (tab_Ref_request_c10.getD i (404, .getfield 70, 3)).2.2) := j_tab (by decide +kernel) i
theorem d_Ref_request_404 : decode (jm_cod M_Ref_request) 404 = .ok (.getfield 70, 3) := dt_Ref_request_c10 0
theorem d_Ref_request_407 : decode (jm_cod M_Ref_request) 407 = .ok (.iload 7, 2) := dt_Ref_request_c10 1
theorem d_Ref_request_409 : decode (jm_cod M_Ref_request) 409 = .ok (.aload_n 0, 1) := dt_Ref_request_c10 2
theorem d_Ref_request_410 : decode (jm_cod M_Ref_request) 410 = .ok (.getfield 348, 3) := dt_Ref_request_c10 3
theorem d_Ref_request_413 : decode (jm_cod M_Ref_request) 413 = .ok (.iastore, 1) := dt_Ref_request_c10 4
theorem d_Ref_request_414 : decode (jm_cod M_Ref_request) 414 = .ok (.aload_n 0, 1) := dt_Ref_request_c10 5
theorem d_Ref_request_415 : decode (jm_cod M_Ref_request) 415 = .ok (.getfield 73, 3) := dt_Ref_request_c10 6
theorem d_Ref_request_418 : decode (jm_cod M_Ref_request) 418 = .ok (.iload 7, 2) := dt_Ref_request_c10 7
theorem d_Ref_request_420 : decode (jm_cod M_Ref_request) 420 = .ok (.iconst (-1), 1) := dt_Ref_request_c10 8
theorem d_Ref_request_421 : decode (jm_cod M_Ref_request) 421 = .ok (.iastore, 1) := dt_Ref_request_c10 9
theorem d_Ref_request_422 : decode (jm_cod M_Ref_request) 422 = .ok (.aload_n 0, 1) := dt_Ref_request_c10 10
theorem d_Ref_request_423 : decode (jm_cod M_Ref_request) 423 = .ok (.getfield 76, 3) := dt_Ref_request_c10 11
theorem d_Ref_request_426 : decode (jm_cod M_Ref_request) 426 = .ok (.iload 7, 2) := dt_Ref_request_c10 12
theorem d_Ref_request_428 : decode (jm_cod M_Ref_request) 428 = .ok (.iconst (-1), 1) := dt_Ref_request_c10 13
theorem d_Ref_request_429 : decode (jm_cod M_Ref_request) 429 = .ok (.iastore, 1) := dt_Ref_request_c10 14
theorem d_Ref_request_430 : decode (jm_cod M_Ref_request) 430 = .ok (.aload_n 0, 1) := dt_Ref_request_c10 15
theorem d_Ref_request_431 : decode (jm_cod M_Ref_request) 431 = .ok (.getfield 79, 3) := dt_Ref_request_c10 16
theorem d_Ref_request_434 : decode (jm_cod M_Ref_request) 434 = .ok (.iload 7, 2) := dt_Ref_request_c10 17
theorem d_Ref_request_436 : decode (jm_cod M_Ref_request) 436 = .ok (.iconst 0, 1) := dt_Ref_request_c10 18
theorem d_Ref_request_437 : decode (jm_cod M_Ref_request) 437 = .ok (.iastore, 1) := dt_Ref_request_c10 19
theorem d_Ref_request_438 : decode (jm_cod M_Ref_request) 438 = .ok (.aload_n 0, 1) := dt_Ref_request_c10 20
theorem d_Ref_request_439 : decode (jm_cod M_Ref_request) 439 = .ok (.getfield 82, 3) := dt_Ref_request_c10 21
theorem d_Ref_request_442 : decode (jm_cod M_Ref_request) 442 = .ok (.iload 7, 2) := dt_Ref_request_c10 22
theorem d_Ref_request_444 : decode (jm_cod M_Ref_request) 444 = .ok (.iconst 0, 1) := dt_Ref_request_c10 23
def tab_Ref_request_c11 : List (Nat × Instr × Nat) := [(445, .iastore, 1), (446, .aload_n 0, 1), (447, .dup, 1), (448, .getfield 337, 3), (451, .iconst 1, 1), (452, .iadd, 1), (453, .putfield 337, 3), (456, .iload 7, 2), (458, .ireturn, 1)]
theorem dt_Ref_request_c11 (i : Nat) : decode (jm_cod M_Ref_request) (tab_Ref_request_c11.getD i (445, .iastore, 1)).1 = .ok ((tab_Ref_request_c11.getD i (445, .iastore, 1)).2.1, (tab_Ref_request_c11.getD i (445, .iastore, 1)).2.2) := j_tab (by decide +kernel) i
theorem d_Ref_request_445 : decode (jm_cod M_Ref_request) 445 = .ok (.iastore, 1) := dt_Ref_request_c11 0
theorem d_Ref_request_446 : decode (jm_cod M_Ref_request) 446 = .ok (.aload_n 0, 1) := dt_Ref_request_c11 1
theorem d_Ref_request_447 : decode (jm_cod M_Ref_request) 447 = .ok (.dup, 1) := dt_Ref_request_c11 2
theorem d_Ref_request_448 : decode (jm_cod M_Ref_request) 448 = .ok (.getfield 337, 3) := dt_Ref_request_c11 3
theorem d_Ref_request_451 : decode (jm_cod M_Ref_request) 451 = .ok (.iconst 1, 1) := dt_Ref_request_c11 4
theorem d_Ref_request_452 : decode (jm_cod M_Ref_request) 452 = .ok (.iadd, 1) := dt_Ref_request_c11 5
theorem d_Ref_request_453 : decode (jm_cod M_Ref_request) 453 = .ok (.putfield 337, 3) := dt_Ref_request_c11 6
theorem d_Ref_request_456 : decode (jm_cod M_Ref_request) 456 = .ok (.iload 7, 2) := dt_Ref_request_c11 7
theorem d_Ref_request_458 : decode (jm_cod M_Ref_request) 458 = .ok (.ireturn, 1) := dt_Ref_request_c11 8
def tab_Ref_breaks_c0 : List (Nat × Instr × Nat) := [(0, .lload_n 0, 1), (1, .invokestatic 321, 3), (4, .istore_n 2, 1), (5, .lload_n 0, 1), (6, .invokestatic 318, 3), (9, .istore_n 3, 1), (10, .lload_n 0, 1), (11, .invokestatic 314, 3), (14, .istore 4, 2), (16, .iload_n 2, 1), (17, .iload_n 3, 1), (18, .imul, 1), (19, .istore 5, 2), (21, .lload_n 0, 1), (22, .invokestatic 324, 3), (25, .iconst 3, 1), (26, .if_icmp .ne 5, 3), (29, .iconst 3, 1), (30, .ireturn, 1), (31, .lload_n 0, 1), (32, .invokestatic 324, 3), (35, .iconst 2, 1), (36, .if_icmp .ne 34, 3), (39, .iload_n 2, 1)]
theorem dt_Ref_breaks_c0 (i : Nat) : decode (jm_cod M_Ref_breaks) (tab_Ref_breaks_c0.getD i (0, .lload_n 0, 1)).1 = .ok ((tab_Ref_breaks_c0.getD i (0, .lload_n 0, 1)).2.1, (tab_Ref_breaks_c0.getD i (0, .lload_n 0, 1)).2.2) := j_tab (by decide +kernel) i
theorem d_Ref_breaks_0 : decode (jm_cod M_Ref_breaks) 0 = .ok (.lload_n 0, 1) := dt_Ref_breaks_c0 0
theorem d_Ref_breaks_1 : decode (jm_cod M_Ref_breaks) 1 = .ok (.invokestatic 321, 3) := dt_Ref_breaks_c0 1
theorem d_Ref_breaks_4 : decode (jm_cod M_Ref_breaks) 4 = .ok (.istore_n 2, 1) := dt_Ref_breaks_c0 2
theorem d_Ref_breaks_5 : decode (jm_cod M_Ref_breaks) 5 = .ok (.lload_n 0, 1) := dt_Ref_breaks_c0 3
theorem d_Ref_breaks_6 : decode (jm_cod M_Ref_breaks) 6 = .ok (.invokestatic 318, 3) := dt_Ref_breaks_c0 4
theorem d_Ref_breaks_9 : decode (jm_cod M_Ref_breaks) 9 = .ok (.istore_n 3, 1) := dt_Ref_breaks_c0 5
theorem d_Ref_breaks_10 : decode (jm_cod M_Ref_breaks) 10 = .ok (.lload_n 0, 1) := dt_Ref_breaks_c0 6
theorem d_Ref_breaks_11 : decode (jm_cod M_Ref_breaks) 11 = .ok (.invokestatic 314, 3) := dt_Ref_breaks_c0 7
theorem d_Ref_breaks_14 : decode (jm_cod M_Ref_breaks) 14 = .ok (.istore 4, 2) := dt_Ref_breaks_c0 8
theorem d_Ref_breaks_16 : decode (jm_cod M_Ref_breaks) 16 = .ok (.iload_n 2, 1) := dt_Ref_breaks_c0 9
theorem d_Ref_breaks_17 : decode (jm_cod M_Ref_breaks) 17 = .ok (.iload_n 3, 1) := dt_Ref_breaks_c0 10
theorem d_Ref_breaks_18 : decode (jm_cod M_Ref_breaks) 18 = .ok (.imul, 1) := dt_Ref_breaks_c0 11
theorem d_Ref_breaks_19 : decode (jm_cod M_Ref_breaks) 19 = .ok (.istore 5, 2) := dt_Ref_breaks_c0 12
theorem d_Ref_breaks_21 : decode (jm_cod M_Ref_breaks) 21 = .ok (.lload_n 0, 1) := dt_Ref_breaks_c0 13
theorem d_Ref_breaks_22 : decode (jm_cod M_Ref_breaks) 22 = .ok (.invokestatic 324, 3) := dt_Ref_breaks_c0 14
theorem d_Ref_breaks_25 : decode (jm_cod M_Ref_breaks) 25 = .ok (.iconst 3, 1) := dt_Ref_breaks_c0 15
theorem d_Ref_breaks_26 : decode (jm_cod M_Ref_breaks) 26 = .ok (.if_icmp .ne 5, 3) := dt_Ref_breaks_c0 16
theorem d_Ref_breaks_29 : decode (jm_cod M_Ref_breaks) 29 = .ok (.iconst 3, 1) := dt_Ref_breaks_c0 17
theorem d_Ref_breaks_30 : decode (jm_cod M_Ref_breaks) 30 = .ok (.ireturn, 1) := dt_Ref_breaks_c0 18
theorem d_Ref_breaks_31 : decode (jm_cod M_Ref_breaks) 31 = .ok (.lload_n 0, 1) := dt_Ref_breaks_c0 19
theorem d_Ref_breaks_32 : decode (jm_cod M_Ref_breaks) 32 = .ok (.invokestatic 324, 3) := dt_Ref_breaks_c0 20
theorem d_Ref_breaks_35 : decode (jm_cod M_Ref_breaks) 35 = .ok (.iconst 2, 1) := dt_Ref_breaks_c0 21
theorem d_Ref_breaks_36 : decode (jm_cod M_Ref_breaks) 36 = .ok (.if_icmp .ne 34, 3) := dt_Ref_breaks_c0 22
theorem d_Ref_breaks_39 : decode (jm_cod M_Ref_breaks) 39 = .ok (.iload_n 2, 1) := dt_Ref_breaks_c0 23
def tab_Ref_breaks_c1 : List (Nat × Instr × Nat) := [(40, .iconst 2, 1), (41, .if_icmp .eq 20, 3), (44, .iload_n 2, 1), (45, .iconst 4, 1), (46, .if_icmp .eq 15, 3), (49, .iload_n 2, 1), (50, .bipush 8, 2), (52, .if_icmp .eq 9, 3), (55, .iload_n 2, 1), (56, .bipush 16, 2), (58, .if_icmp .ne 10, 3), (61, .iload 4, 2), (63, .iload_n 3, 1), (64, .irem, 1), (65, .ifCond .eq 5, 3), (68, .iconst 4, 1), (69, .ireturn, 1), (70, .lload_n 0, 1), (71, .invokestatic 324, 3), (74, .iconst 1, 1), (75, .if_icmp .ne 30, 3), (78, .iload 4, 2), (80, .iload 4, 2), (82, .iload_n 3, 1)]
theorem dt_Ref_breaks_c1 (i : Nat) : decode (jm_cod M_Ref_breaks) (tab_Ref_breaks_c1.getD i (40, .iconst 2, 1)).1 = .ok ((tab_Ref_breaks_c1.getD i (40, .iconst 2, 1)).2.1, (tab_Ref_breaks_c1.getD i (40, .iconst 2, 1)).2.2) := j_tab (by decide +kernel) i
theorem d_Ref_breaks_40 : decode (jm_cod M_Ref_breaks) 40 = .ok (.iconst 2, 1) := dt_Ref_breaks_c1 0
theorem d_Ref_breaks_41 : decode (jm_cod M_Ref_breaks) 41 = .ok (.if_icmp .eq 20, 3) := dt_Ref_breaks_c1 1
theorem d_Ref_breaks_44 : decode (jm_cod M_Ref_breaks) 44 = .ok (.iload_n 2, 1) := dt_Ref_breaks_c1 2
theorem d_Ref_breaks_45 : decode (jm_cod M_Ref_breaks) 45 = .ok (.iconst 4, 1) := dt_Ref_breaks_c1 3
theorem d_Ref_breaks_46 : decode (jm_cod M_Ref_breaks) 46 = .ok (.if_icmp .eq 15, 3) := dt_Ref_breaks_c1 4
theorem d_Ref_breaks_49 : decode (jm_cod M_Ref_breaks) 49 = .ok (.iload_n 2, 1) := dt_Ref_breaks_c1 5
theorem d_Ref_breaks_50 : decode (jm_cod M_Ref_breaks) 50 = .ok (.bipush 8, 2) := dt_Ref_breaks_c1 6
theorem d_Ref_breaks_52 : decode (jm_cod M_Ref_breaks) 52 = .ok (.if_icmp .eq 9, 3) := dt_Ref_breaks_c1 7
theorem d_Ref_breaks_55 : decode (jm_cod M_Ref_breaks) 55 = .ok (.iload_n 2, 1) := dt_Ref_breaks_c1 8
theorem d_Ref_breaks_56 : decode (jm_cod M_Ref_breaks) 56 = .ok (.bipush 16, 2) := dt_Ref_breaks_c1 9
theorem d_Ref_breaks_58 : decode (jm_cod M_Ref_breaks) 58 = .ok (.if_icmp .ne 10, 3) := dt_Ref_breaks_c1 10
theorem d_Ref_breaks_61 : decode (jm_cod M_Ref_breaks) 61 = .ok (.iload 4, 2) := dt_Ref_breaks_c1 11
theorem d_Ref_breaks_63 : decode (jm_cod M_Ref_breaks) 63 = .ok (.iload_n 3, 1) := dt_Ref_breaks_c1 12
theorem d_Ref_breaks_64 : decode (jm_cod M_Ref_breaks) 64 = .ok (.irem, 1) := dt_Ref_breaks_c1 13
theorem d_Ref_breaks_65 : decode (jm_cod M_Ref_breaks) 65 = .ok (.ifCond .eq 5, 3) := dt_Ref_breaks_c1 14
theorem d_Ref_breaks_68 : decode (jm_cod M_Ref_breaks) 68 = .ok (.iconst 4, 1) := dt_Ref_breaks_c1 15
theorem d_Ref_breaks_69 : decode (jm_cod M_Ref_breaks) 69 = .ok (.ireturn, 1) := dt_Ref_breaks_c1 16
theorem d_Ref_breaks_70 : decode (jm_cod M_Ref_breaks) 70 = .ok (.lload_n 0, 1) := dt_Ref_breaks_c1 17
theorem d_Ref_breaks_71 : decode (jm_cod M_Ref_breaks) 71 = .ok (.invokestatic 324, 3) := dt_Ref_breaks_c1 18
theorem d_Ref_breaks_74 : decode (jm_cod M_Ref_breaks) 74 = .ok (.iconst 1, 1) := dt_Ref_breaks_c1 19
theorem d_Ref_breaks_75 : decode (jm_cod M_Ref_breaks) 75 = .ok (.if_icmp .ne 30, 3) := dt_Ref_breaks_c1 20
theorem d_Ref_breaks_78 : decode (jm_cod M_Ref_breaks) 78 = .ok (.iload 4, 2) := dt_Ref_breaks_c1 21
theorem d_Ref_breaks_80 : decode (jm_cod M_Ref_breaks) 80 = .ok (.iload 4, 2) := dt_Ref_breaks_c1 22
theorem d_Ref_breaks_82 : decode (jm_cod M_Ref_breaks) 82 = .ok (.iload_n 3, 1) := dt_Ref_breaks_c1 23
def tab_Ref_breaks_c2 : List (Nat × Instr × Nat) := [(83, .irem, 1), (84, .isub, 1), (85, .iload 5, 2), (87, .iadd, 1), (88, .iconst 1, 1), (89, .isub, 1), (90, .sipush 4096, 3), (93, .idiv, 1), (94, .iload 4, 2), (96, .sipush 4096, 3), (99, .idiv, 1), (100, .if_icmp .eq 5, 3), (103, .iconst 5, 1), (104, .ireturn, 1), (105, .iload 5, 2), (107, .iload 5, 2), (109, .iconst 1, 1), (110, .isub, 1), (111, .iand, 1), (112, .ifCond .ne 7, 3), (115, .iconst 1, 1), (116, .goto 4, 3), (119, .iconst 0, 1), (120, .istore 6, 2)]
theorem dt_Ref_breaks_c2 (i : Nat) : decode (jm_cod M_Ref_breaks) (tab_Ref_breaks_c2.getD i (83, .irem, 1)).1 = .ok ((tab_Ref_breaks_c2.getD i (83, .irem, 1)).2.1, (tab_Ref_breaks_c2.getD i (83, .irem, 1)).2.2) := j_tab (by decide +kernel) i
theorem d_Ref_breaks_83 : decode (jm_cod M_Ref_breaks) 83 = .ok (.irem, 1) := dt_Ref_breaks_c2 0
theorem d_Ref_breaks_84 : decode (jm_cod M_Ref_breaks) 84 = .ok (.isub, 1) := dt_Ref_breaks_c2 1
theorem d_Ref_breaks_85 : decode (jm_cod M_Ref_breaks) 85 = .ok (.iload 5, 2) := dt_Ref_breaks_c2 2
theorem d_Ref_breaks_87 : decode (jm_cod M_Ref_breaks) 87 = .ok (.iadd, 1) := dt_Ref_breaks_c2 3
theorem d_Ref_breaks_88 : decode (jm_cod M_Ref_breaks) 88 = .ok (.iconst 1, 1) := dt_Ref_breaks_c2 4
theorem d_Ref_breaks_89 : decode (jm_cod M_Ref_breaks) 89 = .ok (.isub, 1) := dt_Ref_breaks_c2 5
theorem d_Ref_breaks_90 : decode (jm_cod M_Ref_breaks) 90 = .ok (.sipush 4096, 3) := dt_Ref_breaks_c2 6
theorem d_Ref_breaks_93 : decode (jm_cod M_Ref_breaks) 93 = .ok (.idiv, 1) := dt_Ref_breaks_c2 7
theorem d_Ref_breaks_94 : decode (jm_cod M_Ref_breaks) 94 = .ok (.iload 4, 2) := dt_Ref_breaks_c2 8
theorem d_Ref_breaks_96 : decode (jm_cod M_Ref_breaks) 96 = .ok (.sipush 4096, 3) := dt_Ref_breaks_c2 9
theorem d_Ref_breaks_99 : decode (jm_cod M_Ref_breaks) 99 = .ok (.idiv, 1) := dt_Ref_breaks_c2 10
theorem d_Ref_breaks_100 : decode (jm_cod M_Ref_breaks) 100 = .ok (.if_icmp .eq 5, 3) := dt_Ref_breaks_c2 11
theorem d_Ref_breaks_103 : decode (jm_cod M_Ref_breaks) 103 = .ok (.iconst 5, 1) := dt_Ref_breaks_c2 12
theorem d_Ref_breaks_104 : decode (jm_cod M_Ref_breaks) 104 = .ok (.ireturn, 1) := dt_Ref_breaks_c2 13
theorem d_Ref_breaks_105 : decode (jm_cod M_Ref_breaks) 105 = .ok (.iload 5, 2) := dt_Ref_breaks_c2 14
theorem d_Ref_breaks_107 : decode (jm_cod M_Ref_breaks) 107 = .ok (.iload 5, 2) := dt_Ref_breaks_c2 15
theorem d_Ref_breaks_109 : decode (jm_cod M_Ref_breaks) 109 = .ok (.iconst 1, 1) := dt_Ref_breaks_c2 16
theorem d_Ref_breaks_110 : decode (jm_cod M_Ref_breaks) 110 = .ok (.isub, 1) := dt_Ref_breaks_c2 17
theorem d_Ref_breaks_111 : decode (jm_cod M_Ref_breaks) 111 = .ok (.iand, 1) := dt_Ref_breaks_c2 18
theorem d_Ref_breaks_112 : decode (jm_cod M_Ref_breaks) 112 = .ok (.ifCond .ne 7, 3) := dt_Ref_breaks_c2 19
theorem d_Ref_breaks_115 : decode (jm_cod M_Ref_breaks) 115 = .ok (.iconst 1, 1) := dt_Ref_breaks_c2 20
theorem d_Ref_breaks_116 : decode (jm_cod M_Ref_breaks) 116 = .ok (.goto 4, 3) := dt_Ref_breaks_c2 21
theorem d_Ref_breaks_119 : decode (jm_cod M_Ref_breaks) 119 = .ok (.iconst 0, 1) := dt_Ref_breaks_c2 22
theorem d_Ref_breaks_120 : decode (jm_cod M_Ref_breaks) 120 = .ok (.istore 6, 2) := dt_Ref_breaks_c2 23
def tab_Ref_breaks_c3 : List (Nat × Instr × Nat) := [(122, .lload_n 0, 1), (123, .invokestatic 329, 3), (126, .ifCond .eq 36, 3), (129, .lload_n 0, 1), (130, .invokestatic 324, 3), (133, .ifCond .eq 24, 3), (136, .iload 6, 2), (138, .ifCond .eq 19, 3), (141, .iload 5, 2), (143, .sipush 128, 3), (146, .if_icmp .gt 11, 3), (149, .iload 4, 2), (151, .iload 5, 2), (153, .irem, 1), (154, .ifCond .eq 8, 3), (157, .bipush 6, 2), (159, .goto 4, 3), (162, .iconst 0, 1), (163, .ireturn, 1)]
theorem dt_Ref_breaks_c3 (i : Nat) : decode (jm_cod M_Ref_breaks) (tab_Ref_breaks_c3.getD i (122, .lload_n 0, 1)).1 = .ok ((tab_Ref_breaks_c3.getD i (122, .lload_n 0, 1)).2.1, (tab_Ref_breaks_c3.getD i (122, .lload_n 0, 1)).2.2) := j_tab (by decide +kernel) i
theorem d_Ref_breaks_122 : decode (jm_cod M_Ref_breaks) 122 = .ok (.lload_n 0, 1) := dt_Ref_breaks_c3 0
theorem d_Ref_breaks_123 : decode (jm_cod M_Ref_breaks) 123 = .ok (.invokestatic 329, 3) := dt_Ref_breaks_c3 1
theorem d_Ref_breaks_126 : decode (jm_cod M_Ref_breaks) 126 = .ok (.ifCond .eq 36, 3) := dt_Ref_breaks_c3 2
theorem d_Ref_breaks_129 : decode (jm_cod M_Ref_breaks) 129 = .ok (.lload_n 0, 1) := dt_Ref_breaks_c3 3
theorem d_Ref_breaks_130 : decode (jm_cod M_Ref_breaks) 130 = .ok (.invokestatic 324, 3) := dt_Ref_breaks_c3 4
theorem d_Ref_breaks_133 : decode (jm_cod M_Ref_breaks) 133 = .ok (.ifCond .eq 24, 3) := dt_Ref_breaks_c3 5
theorem d_Ref_breaks_136 : decode (jm_cod M_Ref_breaks) 136 = .ok (.iload 6, 2) := dt_Ref_breaks_c3 6
theorem d_Ref_breaks_138 : decode (jm_cod M_Ref_breaks) 138 = .ok (.ifCond .eq 19, 3) := dt_Ref_breaks_c3 7
theorem d_Ref_breaks_141 : decode (jm_cod M_Ref_breaks) 141 = .ok (.iload 5, 2) := dt_Ref_breaks_c3 8
theorem d_Ref_breaks_143 : decode (jm_cod M_Ref_breaks) 143 = .ok (.sipush 128, 3) := dt_Ref_breaks_c3 9
theorem d_Ref_breaks_146 : decode (jm_cod M_Ref_breaks) 146 = .ok (.if_icmp .gt 11, 3) := dt_Ref_breaks_c3 10
theorem d_Ref_breaks_149 : decode (jm_cod M_Ref_breaks) 149 = .ok (.iload 4, 2) := dt_Ref_breaks_c3 11
theorem d_Ref_breaks_151 : decode (jm_cod M_Ref_breaks) 151 = .ok (.iload 5, 2) := dt_Ref_breaks_c3 12
theorem d_Ref_breaks_153 : decode (jm_cod M_Ref_breaks) 153 = .ok (.irem, 1) := dt_Ref_breaks_c3 13
theorem d_Ref_breaks_154 : decode (jm_cod M_Ref_breaks) 154 = .ok (.ifCond .eq 8, 3) := dt_Ref_breaks_c3 14
theorem d_Ref_breaks_157 : decode (jm_cod M_Ref_breaks) 157 = .ok (.bipush 6, 2) := dt_Ref_breaks_c3 15
theorem d_Ref_breaks_159 : decode (jm_cod M_Ref_breaks) 159 = .ok (.goto 4, 3) := dt_Ref_breaks_c3 16
theorem d_Ref_breaks_162 : decode (jm_cod M_Ref_breaks) 162 = .ok (.iconst 0, 1) := dt_Ref_breaks_c3 17
theorem d_Ref_breaks_163 : decode (jm_cod M_Ref_breaks) 163 = .ok (.ireturn, 1) := dt_Ref_breaks_c3 18
def tab_Ref_lengthOf_c0 : List (Nat × Instr × Nat) := [(0, .lload_n 0, 1), (1, .bipush 22, 2), (3, .lshr, 1), (4, .ldc2_w 310, 3), (7, .land, 1), (8, .l2i, 1), (9, .iconst 1, 1), (10, .iadd, 1), (11, .ireturn, 1)]
theorem dt_Ref_lengthOf_c0 (i : Nat) : decode (jm_cod M_Ref_lengthOf) (tab_Ref_lengthOf_c0.getD i (0, .lload_n 0, 1)).1 = .ok ((tab_Ref_lengthOf_c0.getD i (0, .lload_n 0, 1)).2.1, (tab_Ref_lengthOf_c0.getD i (0, .lload_n 0, 1)).2.2) := j_tab (by decide +kernel) i
theorem d_Ref_lengthOf_0 : decode (jm_cod M_Ref_lengthOf) 0 = .ok (.lload_n 0, 1) := dt_Ref_lengthOf_c0 0
theorem d_Ref_lengthOf_1 : decode (jm_cod M_Ref_lengthOf) 1 = .ok (.bipush 22, 2) := dt_Ref_lengthOf_c0 1
theorem d_Ref_lengthOf_3 : decode (jm_cod M_Ref_lengthOf) 3 = .ok (.lshr, 1) := dt_Ref_lengthOf_c0 2
theorem d_Ref_lengthOf_4 : decode (jm_cod M_Ref_lengthOf) 4 = .ok (.ldc2_w 310, 3) := dt_Ref_lengthOf_c0 3
theorem d_Ref_lengthOf_7 : decode (jm_cod M_Ref_lengthOf) 7 = .ok (.land, 1) := dt_Ref_lengthOf_c0 4
theorem d_Ref_lengthOf_8 : decode (jm_cod M_Ref_lengthOf) 8 = .ok (.l2i, 1) := dt_Ref_lengthOf_c0 5
theorem d_Ref_lengthOf_9 : decode (jm_cod M_Ref_lengthOf) 9 = .ok (.iconst 1, 1) := dt_Ref_lengthOf_c0 6
theorem d_Ref_lengthOf_10 : decode (jm_cod M_Ref_lengthOf) 10 = .ok (.iadd, 1) := dt_Ref_lengthOf_c0 7
theorem d_Ref_lengthOf_11 : decode (jm_cod M_Ref_lengthOf) 11 = .ok (.ireturn, 1) := dt_Ref_lengthOf_c0 8
def tab_Ref_sizeOf_c0 : List (Nat × Instr × Nat) := [(0, .iconst 1, 1), (1, .lload_n 0, 1), (2, .bipush 26, 2), (4, .lshr, 1), (5, .ldc2_w 312, 3), (8, .land, 1), (9, .l2i, 1), (10, .ishl, 1), (11, .ireturn, 1)]
theorem dt_Ref_sizeOf_c0 (i : Nat) : decode (jm_cod M_Ref_sizeOf) (tab_Ref_sizeOf_c0.getD i (0, .iconst 1, 1)).1 = .ok ((tab_Ref_sizeOf_c0.getD i (0, .iconst 1, 1)).2.1, (tab_Ref_sizeOf_c0.getD i (0, .iconst 1, 1)).2.2) := j_tab (by decide +kernel) i
theorem d_Ref_sizeOf_0 : decode (jm_cod M_Ref_sizeOf) 0 = .ok (.iconst 1, 1) := dt_Ref_sizeOf_c0 0
theorem d_Ref_sizeOf_1 : decode (jm_cod M_Ref_sizeOf) 1 = .ok (.lload_n 0, 1) := dt_Ref_sizeOf_c0 1
theorem d_Ref_sizeOf_2 : decode (jm_cod M_Ref_sizeOf) 2 = .ok (.bipush 26, 2) := dt_Ref_sizeOf_c0 2
theorem d_Ref_sizeOf_4 : decode (jm_cod M_Ref_sizeOf) 4 = .ok (.lshr, 1) := dt_Ref_sizeOf_c0 3
theorem d_Ref_sizeOf_5 : decode (jm_cod M_Ref_sizeOf) 5 = .ok (.ldc2_w 312, 3) := dt_Ref_sizeOf_c0 4
theorem d_Ref_sizeOf_8 : decode (jm_cod M_Ref_sizeOf) 8 = .ok (.land, 1) := dt_Ref_sizeOf_c0 5
theorem d_Ref_sizeOf_9 : decode (jm_cod M_Ref_sizeOf) 9 = .ok (.l2i, 1) := dt_Ref_sizeOf_c0 6
theorem d_Ref_sizeOf_10 : decode (jm_cod M_Ref_sizeOf) 10 = .ok (.ishl, 1) := dt_Ref_sizeOf_c0 7
theorem d_Ref_sizeOf_11 : decode (jm_cod M_Ref_sizeOf) 11 = .ok (.ireturn, 1) := dt_Ref_sizeOf_c0 8
def tab_Ref_addressOf_c0 : List (Nat × Instr × Nat) := [(0, .lload_n 0, 1), (1, .bipush 6, 2), (3, .lshr, 1), (4, .ldc2_w 308, 3), (7, .land, 1), (8, .l2i, 1), (9, .ireturn, 1)]
theorem dt_Ref_addressOf_c0 (i : Nat) : decode (jm_cod M_Ref_addressOf) (tab_Ref_addressOf_c0.getD i (0, .lload_n 0, 1)).1 = .ok ((tab_Ref_addressOf_c0.getD i (0, .lload_n 0, 1)).2.1, (tab_Ref_addressOf_c0.getD i (0, .lload_n 0, 1)).2.2) := j_tab (by decide +kernel) i
theorem d_Ref_addressOf_0 : decode (jm_cod M_Ref_addressOf) 0 = .ok (.lload_n 0, 1) := dt_Ref_addressOf_c0 0
theorem d_Ref_addressOf_1 : decode (jm_cod M_Ref_addressOf) 1 = .ok (.bipush 6, 2) := dt_Ref_addressOf_c0 1
theorem d_Ref_addressOf_3 : decode (jm_cod M_Ref_addressOf) 3 = .ok (.lshr, 1) := dt_Ref_addressOf_c0 2
theorem d_Ref_addressOf_4 : decode (jm_cod M_Ref_addressOf) 4 = .ok (.ldc2_w 308, 3) := dt_Ref_addressOf_c0 3
theorem d_Ref_addressOf_7 : decode (jm_cod M_Ref_addressOf) 7 = .ok (.land, 1) := dt_Ref_addressOf_c0 4
theorem d_Ref_addressOf_8 : decode (jm_cod M_Ref_addressOf) 8 = .ok (.l2i, 1) := dt_Ref_addressOf_c0 5
theorem d_Ref_addressOf_9 : decode (jm_cod M_Ref_addressOf) 9 = .ok (.ireturn, 1) := dt_Ref_addressOf_c0 6
def tab_Ref_kindOf_c0 : List (Nat × Instr × Nat) := [(0, .lload_n 0, 1), (1, .bipush 28, 2), (3, .lshr, 1), (4, .ldc2_w 312, 3), (7, .land, 1), (8, .l2i, 1), (9, .ireturn, 1)]
theorem dt_Ref_kindOf_c0 (i : Nat) : decode (jm_cod M_Ref_kindOf) (tab_Ref_kindOf_c0.getD i (0, .lload_n 0, 1)).1 = .ok ((tab_Ref_kindOf_c0.getD i (0, .lload_n 0, 1)).2.1, (tab_Ref_kindOf_c0.getD i (0, .lload_n 0, 1)).2.2) := j_tab (by decide +kernel) i
theorem d_Ref_kindOf_0 : decode (jm_cod M_Ref_kindOf) 0 = .ok (.lload_n 0, 1) := dt_Ref_kindOf_c0 0
theorem d_Ref_kindOf_1 : decode (jm_cod M_Ref_kindOf) 1 = .ok (.bipush 28, 2) := dt_Ref_kindOf_c0 1
theorem d_Ref_kindOf_3 : decode (jm_cod M_Ref_kindOf) 3 = .ok (.lshr, 1) := dt_Ref_kindOf_c0 2
theorem d_Ref_kindOf_4 : decode (jm_cod M_Ref_kindOf) 4 = .ok (.ldc2_w 312, 3) := dt_Ref_kindOf_c0 3
theorem d_Ref_kindOf_7 : decode (jm_cod M_Ref_kindOf) 7 = .ok (.land, 1) := dt_Ref_kindOf_c0 4
theorem d_Ref_kindOf_8 : decode (jm_cod M_Ref_kindOf) 8 = .ok (.l2i, 1) := dt_Ref_kindOf_c0 5
theorem d_Ref_kindOf_9 : decode (jm_cod M_Ref_kindOf) 9 = .ok (.ireturn, 1) := dt_Ref_kindOf_c0 6
def tab_Ref_isAlone_c0 : List (Nat × Instr × Nat) := [(0, .lload_n 0, 1), (1, .bipush 30, 2), (3, .lshr, 1), (4, .lconst 1, 1), (5, .land, 1), (6, .lconst 1, 1), (7, .lcmp, 1), (8, .ifCond .ne 7, 3), (11, .iconst 1, 1), (12, .goto 4, 3), (15, .iconst 0, 1), (16, .ireturn, 1)]
theorem dt_Ref_isAlone_c0 (i : Nat) : decode (jm_cod M_Ref_isAlone) (tab_Ref_isAlone_c0.getD i (0, .lload_n 0, 1)).1 = .ok ((tab_Ref_isAlone_c0.getD i (0, .lload_n 0, 1)).2.1, (tab_Ref_isAlone_c0.getD i (0, .lload_n 0, 1)).2.2) := j_tab (by decide +kernel) i
theorem d_Ref_isAlone_0 : decode (jm_cod M_Ref_isAlone) 0 = .ok (.lload_n 0, 1) := dt_Ref_isAlone_c0 0
theorem d_Ref_isAlone_1 : decode (jm_cod M_Ref_isAlone) 1 = .ok (.bipush 30, 2) := dt_Ref_isAlone_c0 1
theorem d_Ref_isAlone_3 : decode (jm_cod M_Ref_isAlone) 3 = .ok (.lshr, 1) := dt_Ref_isAlone_c0 2
theorem d_Ref_isAlone_4 : decode (jm_cod M_Ref_isAlone) 4 = .ok (.lconst 1, 1) := dt_Ref_isAlone_c0 3
theorem d_Ref_isAlone_5 : decode (jm_cod M_Ref_isAlone) 5 = .ok (.land, 1) := dt_Ref_isAlone_c0 4
theorem d_Ref_isAlone_6 : decode (jm_cod M_Ref_isAlone) 6 = .ok (.lconst 1, 1) := dt_Ref_isAlone_c0 5
theorem d_Ref_isAlone_7 : decode (jm_cod M_Ref_isAlone) 7 = .ok (.lcmp, 1) := dt_Ref_isAlone_c0 6
theorem d_Ref_isAlone_8 : decode (jm_cod M_Ref_isAlone) 8 = .ok (.ifCond .ne 7, 3) := dt_Ref_isAlone_c0 7
theorem d_Ref_isAlone_11 : decode (jm_cod M_Ref_isAlone) 11 = .ok (.iconst 1, 1) := dt_Ref_isAlone_c0 8
theorem d_Ref_isAlone_12 : decode (jm_cod M_Ref_isAlone) 12 = .ok (.goto 4, 3) := dt_Ref_isAlone_c0 9
theorem d_Ref_isAlone_15 : decode (jm_cod M_Ref_isAlone) 15 = .ok (.iconst 0, 1) := dt_Ref_isAlone_c0 10
theorem d_Ref_isAlone_16 : decode (jm_cod M_Ref_isAlone) 16 = .ok (.ireturn, 1) := dt_Ref_isAlone_c0 11
def tab_Ref_tick_c0 : List (Nat × Instr × Nat) := [(0, .aload_n 0, 1), (1, .iload_n 1, 1), (2, .i2l, 1), (3, .lconst 1, 1), (4, .ldc2_w 616, 3), (7, .invokestatic 599, 3), (10, .ifCond .eq 7, 3), (13, .iconst 0, 1), (14, .goto 4, 3), (17, .iconst 1, 1), (18, .putfield 303, 3), (21, .iconst 0, 1), (22, .istore_n 2, 1), (23, .iconst 0, 1), (24, .istore_n 3, 1), (25, .iload_n 3, 1), (26, .iload_n 1, 1), (27, .if_icmp .ge 23, 3), (30, .aload_n 0, 1), (31, .getfield 303, 3), (34, .ifCond .ne 16, 3), (37, .iload_n 2, 1), (38, .aload_n 0, 1), (39, .invokevirtual 618, 3)]
theorem dt_Ref_tick_c0 (i : Nat) : decode (jm_cod M_Ref_tick) (tab_Ref_tick_c0.getD i (0, .aload_n 0, 1)).1 = .ok ((tab_Ref_tick_c0.getD i (0, .aload_n 0, 1)).2.1, (tab_Ref_tick_c0.getD i (0, .aload_n 0, 1)).2.2) := j_tab (by decide +kernel) i
theorem d_Ref_tick_0 : decode (jm_cod M_Ref_tick) 0 = .ok (.aload_n 0, 1) := dt_Ref_tick_c0 0
theorem d_Ref_tick_1 : decode (jm_cod M_Ref_tick) 1 = .ok (.iload_n 1, 1) := dt_Ref_tick_c0 1
theorem d_Ref_tick_2 : decode (jm_cod M_Ref_tick) 2 = .ok (.i2l, 1) := dt_Ref_tick_c0 2
theorem d_Ref_tick_3 : decode (jm_cod M_Ref_tick) 3 = .ok (.lconst 1, 1) := dt_Ref_tick_c0 3
theorem d_Ref_tick_4 : decode (jm_cod M_Ref_tick) 4 = .ok (.ldc2_w 616, 3) := dt_Ref_tick_c0 4
theorem d_Ref_tick_7 : decode (jm_cod M_Ref_tick) 7 = .ok (.invokestatic 599, 3) := dt_Ref_tick_c0 5
theorem d_Ref_tick_10 : decode (jm_cod M_Ref_tick) 10 = .ok (.ifCond .eq 7, 3) := dt_Ref_tick_c0 6
theorem d_Ref_tick_13 : decode (jm_cod M_Ref_tick) 13 = .ok (.iconst 0, 1) := dt_Ref_tick_c0 7
theorem d_Ref_tick_14 : decode (jm_cod M_Ref_tick) 14 = .ok (.goto 4, 3) := dt_Ref_tick_c0 8
theorem d_Ref_tick_17 : decode (jm_cod M_Ref_tick) 17 = .ok (.iconst 1, 1) := dt_Ref_tick_c0 9
theorem d_Ref_tick_18 : decode (jm_cod M_Ref_tick) 18 = .ok (.putfield 303, 3) := dt_Ref_tick_c0 10
theorem d_Ref_tick_21 : decode (jm_cod M_Ref_tick) 21 = .ok (.iconst 0, 1) := dt_Ref_tick_c0 11
theorem d_Ref_tick_22 : decode (jm_cod M_Ref_tick) 22 = .ok (.istore_n 2, 1) := dt_Ref_tick_c0 12
theorem d_Ref_tick_23 : decode (jm_cod M_Ref_tick) 23 = .ok (.iconst 0, 1) := dt_Ref_tick_c0 13
theorem d_Ref_tick_24 : decode (jm_cod M_Ref_tick) 24 = .ok (.istore_n 3, 1) := dt_Ref_tick_c0 14
theorem d_Ref_tick_25 : decode (jm_cod M_Ref_tick) 25 = .ok (.iload_n 3, 1) := dt_Ref_tick_c0 15
theorem d_Ref_tick_26 : decode (jm_cod M_Ref_tick) 26 = .ok (.iload_n 1, 1) := dt_Ref_tick_c0 16
theorem d_Ref_tick_27 : decode (jm_cod M_Ref_tick) 27 = .ok (.if_icmp .ge 23, 3) := dt_Ref_tick_c0 17
theorem d_Ref_tick_30 : decode (jm_cod M_Ref_tick) 30 = .ok (.aload_n 0, 1) := dt_Ref_tick_c0 18
theorem d_Ref_tick_31 : decode (jm_cod M_Ref_tick) 31 = .ok (.getfield 303, 3) := dt_Ref_tick_c0 19
theorem d_Ref_tick_34 : decode (jm_cod M_Ref_tick) 34 = .ok (.ifCond .ne 16, 3) := dt_Ref_tick_c0 20
theorem d_Ref_tick_37 : decode (jm_cod M_Ref_tick) 37 = .ok (.iload_n 2, 1) := dt_Ref_tick_c0 21
theorem d_Ref_tick_38 : decode (jm_cod M_Ref_tick) 38 = .ok (.aload_n 0, 1) := dt_Ref_tick_c0 22
theorem d_Ref_tick_39 : decode (jm_cod M_Ref_tick) 39 = .ok (.invokevirtual 618, 3) := dt_Ref_tick_c0 23
def tab_Ref_tick_c1 : List (Nat × Instr × Nat) := [(42, .iadd, 1), (43, .istore_n 2, 1), (44, .iinc 3 1, 3), (47, .goto (-22), 3), (50, .iload_n 2, 1), (51, .ireturn, 1)]
theorem dt_Ref_tick_c1 (i : Nat) : decode (jm_cod M_Ref_tick) (tab_Ref_tick_c1.getD i (42, .iadd, 1)).1 = .ok ((tab_Ref_tick_c1.getD i (42, .iadd, 1)).2.1, (tab_Ref_tick_c1.getD i (42, .iadd, 1)).2.2) := j_tab (by decide +kernel) i
theorem d_Ref_tick_42 : decode (jm_cod M_Ref_tick) 42 = .ok (.iadd, 1) := dt_Ref_tick_c1 0
theorem d_Ref_tick_43 : decode (jm_cod M_Ref_tick) 43 = .ok (.istore_n 2, 1) := dt_Ref_tick_c1 1
theorem d_Ref_tick_44 : decode (jm_cod M_Ref_tick) 44 = .ok (.iinc 3 1, 3) := dt_Ref_tick_c1 2
theorem d_Ref_tick_47 : decode (jm_cod M_Ref_tick) 47 = .ok (.goto (-22), 3) := dt_Ref_tick_c1 3
theorem d_Ref_tick_50 : decode (jm_cod M_Ref_tick) 50 = .ok (.iload_n 2, 1) := dt_Ref_tick_c1 4
theorem d_Ref_tick_51 : decode (jm_cod M_Ref_tick) 51 = .ok (.ireturn, 1) := dt_Ref_tick_c1 5
def tab_Ref_step_c0 : List (Nat × Instr × Nat) := [(0, .iconst 0, 1), (1, .istore_n 1, 1), (2, .iload_n 1, 1), (3, .aload_n 0, 1), (4, .getfield 290, 3), (7, .if_icmp .ge 14, 3), (10, .aload_n 0, 1), (11, .iload_n 1, 1), (12, .invokevirtual 578, 3), (15, .iinc 1 1, 3), (18, .goto (-16), 3), (21, .iconst 0, 1), (22, .istore_n 1, 1), (23, .iload_n 1, 1), (24, .aload_n 0, 1), (25, .getfield 294, 3), (28, .if_icmp .ge 14, 3), (31, .aload_n 0, 1), (32, .iload_n 1, 1), (33, .invokevirtual 581, 3), (36, .iinc 1 1, 3), (39, .goto (-16), 3), (42, .iconst 0, 1), (43, .istore_n 1, 1)]
theorem dt_Ref_step_c0 (i : Nat) : decode (jm_cod M_Ref_step) (tab_Ref_step_c0.getD i (0, .iconst 0, 1)).1 = .ok ((tab_Ref_step_c0.getD i (0, .iconst 0, 1)).2.1, (tab_Ref_step_c0.getD i (0, .iconst 0, 1)).2.2) := j_tab (by decide +kernel) i
theorem d_Ref_step_0 : decode (jm_cod M_Ref_step) 0 = .ok (.iconst 0, 1) := dt_Ref_step_c0 0
theorem d_Ref_step_1 : decode (jm_cod M_Ref_step) 1 = .ok (.istore_n 1, 1) := dt_Ref_step_c0 1
theorem d_Ref_step_2 : decode (jm_cod M_Ref_step) 2 = .ok (.iload_n 1, 1) := dt_Ref_step_c0 2
theorem d_Ref_step_3 : decode (jm_cod M_Ref_step) 3 = .ok (.aload_n 0, 1) := dt_Ref_step_c0 3
theorem d_Ref_step_4 : decode (jm_cod M_Ref_step) 4 = .ok (.getfield 290, 3) := dt_Ref_step_c0 4
theorem d_Ref_step_7 : decode (jm_cod M_Ref_step) 7 = .ok (.if_icmp .ge 14, 3) := dt_Ref_step_c0 5
theorem d_Ref_step_10 : decode (jm_cod M_Ref_step) 10 = .ok (.aload_n 0, 1) := dt_Ref_step_c0 6
theorem d_Ref_step_11 : decode (jm_cod M_Ref_step) 11 = .ok (.iload_n 1, 1) := dt_Ref_step_c0 7
theorem d_Ref_step_12 : decode (jm_cod M_Ref_step) 12 = .ok (.invokevirtual 578, 3) := dt_Ref_step_c0 8
theorem d_Ref_step_15 : decode (jm_cod M_Ref_step) 15 = .ok (.iinc 1 1, 3) := dt_Ref_step_c0 9
theorem d_Ref_step_18 : decode (jm_cod M_Ref_step) 18 = .ok (.goto (-16), 3) := dt_Ref_step_c0 10
theorem d_Ref_step_21 : decode (jm_cod M_Ref_step) 21 = .ok (.iconst 0, 1) := dt_Ref_step_c0 11
theorem d_Ref_step_22 : decode (jm_cod M_Ref_step) 22 = .ok (.istore_n 1, 1) := dt_Ref_step_c0 12
theorem d_Ref_step_23 : decode (jm_cod M_Ref_step) 23 = .ok (.iload_n 1, 1) := dt_Ref_step_c0 13
theorem d_Ref_step_24 : decode (jm_cod M_Ref_step) 24 = .ok (.aload_n 0, 1) := dt_Ref_step_c0 14
theorem d_Ref_step_25 : decode (jm_cod M_Ref_step) 25 = .ok (.getfield 294, 3) := dt_Ref_step_c0 15
theorem d_Ref_step_28 : decode (jm_cod M_Ref_step) 28 = .ok (.if_icmp .ge 14, 3) := dt_Ref_step_c0 16
theorem d_Ref_step_31 : decode (jm_cod M_Ref_step) 31 = .ok (.aload_n 0, 1) := dt_Ref_step_c0 17
theorem d_Ref_step_32 : decode (jm_cod M_Ref_step) 32 = .ok (.iload_n 1, 1) := dt_Ref_step_c0 18
theorem d_Ref_step_33 : decode (jm_cod M_Ref_step) 33 = .ok (.invokevirtual 581, 3) := dt_Ref_step_c0 19
theorem d_Ref_step_36 : decode (jm_cod M_Ref_step) 36 = .ok (.iinc 1 1, 3) := dt_Ref_step_c0 20
theorem d_Ref_step_39 : decode (jm_cod M_Ref_step) 39 = .ok (.goto (-16), 3) := dt_Ref_step_c0 21
theorem d_Ref_step_42 : decode (jm_cod M_Ref_step) 42 = .ok (.iconst 0, 1) := dt_Ref_step_c0 22
theorem d_Ref_step_43 : decode (jm_cod M_Ref_step) 43 = .ok (.istore_n 1, 1) := dt_Ref_step_c0 23
def tab_Ref_step_c1 : List (Nat × Instr × Nat) := [(44, .iload_n 1, 1), (45, .bipush 8, 2), (47, .if_icmp .ge 26, 3), (50, .aload_n 0, 1), (51, .iload_n 1, 1), (52, .invokevirtual 584, 3), (55, .ifCond .eq 12, 3), (58, .aload_n 0, 1), (59, .iload_n 1, 1), (60, .iconst 5, 1), (61, .iload_n 1, 1), (62, .imul, 1), (63, .iconst 0, 1), (64, .invokevirtual 587, 3), (67, .iinc 1 1, 3), (70, .goto (-26), 3), (73, .iconst 0, 1), (74, .istore_n 1, 1), (75, .iconst 0, 1), (76, .istore_n 2, 1), (77, .iload_n 2, 1), (78, .bipush 40, 2), (80, .if_icmp .ge 130, 3), (83, .aload_n 0, 1)]
theorem dt_Ref_step_c1 (i : Nat) : decode (jm_cod M_Ref_step) (tab_Ref_step_c1.getD i (44, .iload_n 1, 1)).1 = .ok ((tab_Ref_step_c1.getD i (44, .iload_n 1, 1)).2.1, (tab_Ref_step_c1.getD i (44, .iload_n 1, 1)).2.2) := j_tab (by decide +kernel) i
theorem d_Ref_step_44 : decode (jm_cod M_Ref_step) 44 = .ok (.iload_n 1, 1) := dt_Ref_step_c1 0
theorem d_Ref_step_45 : decode (jm_cod M_Ref_step) 45 = .ok (.bipush 8, 2) := dt_Ref_step_c1 1
theorem d_Ref_step_47 : decode (jm_cod M_Ref_step) 47 = .ok (.if_icmp .ge 26, 3) := dt_Ref_step_c1 2
theorem d_Ref_step_50 : decode (jm_cod M_Ref_step) 50 = .ok (.aload_n 0, 1) := dt_Ref_step_c1 3
theorem d_Ref_step_51 : decode (jm_cod M_Ref_step) 51 = .ok (.iload_n 1, 1) := dt_Ref_step_c1 4
theorem d_Ref_step_52 : decode (jm_cod M_Ref_step) 52 = .ok (.invokevirtual 584, 3) := dt_Ref_step_c1 5
theorem d_Ref_step_55 : decode (jm_cod M_Ref_step) 55 = .ok (.ifCond .eq 12, 3) := dt_Ref_step_c1 6
theorem d_Ref_step_58 : decode (jm_cod M_Ref_step) 58 = .ok (.aload_n 0, 1) := dt_Ref_step_c1 7
theorem d_Ref_step_59 : decode (jm_cod M_Ref_step) 59 = .ok (.iload_n 1, 1) := dt_Ref_step_c1 8
theorem d_Ref_step_60 : decode (jm_cod M_Ref_step) 60 = .ok (.iconst 5, 1) := dt_Ref_step_c1 9
theorem d_Ref_step_61 : decode (jm_cod M_Ref_step) 61 = .ok (.iload_n 1, 1) := dt_Ref_step_c1 10
theorem d_Ref_step_62 : decode (jm_cod M_Ref_step) 62 = .ok (.imul, 1) := dt_Ref_step_c1 11
theorem d_Ref_step_63 : decode (jm_cod M_Ref_step) 63 = .ok (.iconst 0, 1) := dt_Ref_step_c1 12
theorem d_Ref_step_64 : decode (jm_cod M_Ref_step) 64 = .ok (.invokevirtual 587, 3) := dt_Ref_step_c1 13
theorem d_Ref_step_67 : decode (jm_cod M_Ref_step) 67 = .ok (.iinc 1 1, 3) := dt_Ref_step_c1 14
theorem d_Ref_step_70 : decode (jm_cod M_Ref_step) 70 = .ok (.goto (-26), 3) := dt_Ref_step_c1 15
theorem d_Ref_step_73 : decode (jm_cod M_Ref_step) 73 = .ok (.iconst 0, 1) := dt_Ref_step_c1 16
theorem d_Ref_step_74 : decode (jm_cod M_Ref_step) 74 = .ok (.istore_n 1, 1) := dt_Ref_step_c1 17
theorem d_Ref_step_75 : decode (jm_cod M_Ref_step) 75 = .ok (.iconst 0, 1) := dt_Ref_step_c1 18
theorem d_Ref_step_76 : decode (jm_cod M_Ref_step) 76 = .ok (.istore_n 2, 1) := dt_Ref_step_c1 19
theorem d_Ref_step_77 : decode (jm_cod M_Ref_step) 77 = .ok (.iload_n 2, 1) := dt_Ref_step_c1 20
theorem d_Ref_step_78 : decode (jm_cod M_Ref_step) 78 = .ok (.bipush 40, 2) := dt_Ref_step_c1 21
theorem d_Ref_step_80 : decode (jm_cod M_Ref_step) 80 = .ok (.if_icmp .ge 130, 3) := dt_Ref_step_c1 22
theorem d_Ref_step_83 : decode (jm_cod M_Ref_step) 83 = .ok (.aload_n 0, 1) := dt_Ref_step_c1 23
def tab_Ref_step_c2 : List (Nat × Instr × Nat) := [(84, .iload_n 2, 1), (85, .iconst 5, 1), (86, .idiv, 1), (87, .invokevirtual 584, 3), (90, .ifCond .eq 25, 3), (93, .aload_n 0, 1), (94, .getfield 88, 3), (97, .iload_n 2, 1), (98, .baload, 1), (99, .ifCond .eq 16, 3), (102, .aload_n 0, 1), (103, .getfield 91, 3), (106, .iload_n 2, 1), (107, .baload, 1), (108, .ifCond .eq 7, 3), (111, .iconst 1, 1), (112, .goto 4, 3), (115, .iconst 0, 1), (116, .istore_n 3, 1), (117, .aload_n 0, 1), (118, .getfield 100, 3), (121, .iload_n 2, 1), (122, .aload_n 0, 1), (123, .iload_n 2, 1)]
theorem dt_Ref_step_c2 (i : Nat) : decode (jm_cod M_Ref_step) (tab_Ref_step_c2.getD i (84, .iload_n 2, 1)).1 = .ok ((tab_Ref_step_c2.getD i (84, .iload_n 2, 1)).2.1, (tab_Ref_step_c2.getD i (84, .iload_n 2, 1)).2.2) := j_tab (by decide +kernel) i
theorem d_Ref_step_84 : decode (jm_cod M_Ref_step) 84 = .ok (.iload_n 2, 1) := dt_Ref_step_c2 0
theorem d_Ref_step_85 : decode (jm_cod M_Ref_step) 85 = .ok (.iconst 5, 1) := dt_Ref_step_c2 1
theorem d_Ref_step_86 : decode (jm_cod M_Ref_step) 86 = .ok (.idiv, 1) := dt_Ref_step_c2 2
theorem d_Ref_step_87 : decode (jm_cod M_Ref_step) 87 = .ok (.invokevirtual 584, 3) := dt_Ref_step_c2 3
theorem d_Ref_step_90 : decode (jm_cod M_Ref_step) 90 = .ok (.ifCond .eq 25, 3) := dt_Ref_step_c2 4
theorem d_Ref_step_93 : decode (jm_cod M_Ref_step) 93 = .ok (.aload_n 0, 1) := dt_Ref_step_c2 5
theorem d_Ref_step_94 : decode (jm_cod M_Ref_step) 94 = .ok (.getfield 88, 3) := dt_Ref_step_c2 6
theorem d_Ref_step_97 : decode (jm_cod M_Ref_step) 97 = .ok (.iload_n 2, 1) := dt_Ref_step_c2 7
theorem d_Ref_step_98 : decode (jm_cod M_Ref_step) 98 = .ok (.baload, 1) := dt_Ref_step_c2 8
theorem d_Ref_step_99 : decode (jm_cod M_Ref_step) 99 = .ok (.ifCond .eq 16, 3) := dt_Ref_step_c2 9
theorem d_Ref_step_102 : decode (jm_cod M_Ref_step) 102 = .ok (.aload_n 0, 1) := dt_Ref_step_c2 10
theorem d_Ref_step_103 : decode (jm_cod M_Ref_step) 103 = .ok (.getfield 91, 3) := dt_Ref_step_c2 11
theorem d_Ref_step_106 : decode (jm_cod M_Ref_step) 106 = .ok (.iload_n 2, 1) := dt_Ref_step_c2 12
theorem d_Ref_step_107 : decode (jm_cod M_Ref_step) 107 = .ok (.baload, 1) := dt_Ref_step_c2 13
theorem d_Ref_step_108 : decode (jm_cod M_Ref_step) 108 = .ok (.ifCond .eq 7, 3) := dt_Ref_step_c2 14
theorem d_Ref_step_111 : decode (jm_cod M_Ref_step) 111 = .ok (.iconst 1, 1) := dt_Ref_step_c2 15
theorem d_Ref_step_112 : decode (jm_cod M_Ref_step) 112 = .ok (.goto 4, 3) := dt_Ref_step_c2 16
theorem d_Ref_step_115 : decode (jm_cod M_Ref_step) 115 = .ok (.iconst 0, 1) := dt_Ref_step_c2 17
theorem d_Ref_step_116 : decode (jm_cod M_Ref_step) 116 = .ok (.istore_n 3, 1) := dt_Ref_step_c2 18
theorem d_Ref_step_117 : decode (jm_cod M_Ref_step) 117 = .ok (.aload_n 0, 1) := dt_Ref_step_c2 19
theorem d_Ref_step_118 : decode (jm_cod M_Ref_step) 118 = .ok (.getfield 100, 3) := dt_Ref_step_c2 20
theorem d_Ref_step_121 : decode (jm_cod M_Ref_step) 121 = .ok (.iload_n 2, 1) := dt_Ref_step_c2 21
theorem d_Ref_step_122 : decode (jm_cod M_Ref_step) 122 = .ok (.aload_n 0, 1) := dt_Ref_step_c2 22
theorem d_Ref_step_123 : decode (jm_cod M_Ref_step) 123 = .ok (.iload_n 2, 1) := dt_Ref_step_c2 23
def tab_Ref_step_c3 : List (Nat × Instr × Nat) := [(124, .iconst 5, 1), (125, .idiv, 1), (126, .invokevirtual 584, 3), (129, .ifCond .eq 25, 3), (132, .aload_n 0, 1), (133, .getfield 88, 3), (136, .iload_n 2, 1), (137, .baload, 1), (138, .ifCond .eq 16, 3), (141, .aload_n 0, 1), (142, .getfield 91, 3), (145, .iload_n 2, 1), (146, .baload, 1), (147, .ifCond .ne 7, 3), (150, .iconst 1, 1), (151, .goto 4, 3), (154, .iconst 0, 1), (155, .bastore, 1), (156, .iload_n 3, 1), (157, .ifCond .eq 47, 3), (160, .iinc 1 1, 3), (163, .aload_n 0, 1), (164, .getfield 103, 3), (167, .iload_n 2, 1)]
theorem dt_Ref_step_c3 (i : Nat) : decode (jm_cod M_Ref_step) (tab_Ref_step_c3.getD i (124, .iconst 5, 1)).1 = .ok ((tab_Ref_step_c3.getD i (124, .iconst 5, 1)).2.1, (tab_Ref_step_c3.getD i (124, .iconst 5, 1)).2.2) := j_tab (by decide +kernel) i
theorem d_Ref_step_124 : decode (jm_cod M_Ref_step) 124 = .ok (.iconst 5, 1) := dt_Ref_step_c3 0
theorem d_Ref_step_125 : decode (jm_cod M_Ref_step) 125 = .ok (.idiv, 1) := dt_Ref_step_c3 1
theorem d_Ref_step_126 : decode (jm_cod M_Ref_step) 126 = .ok (.invokevirtual 584, 3) := dt_Ref_step_c3 2
theorem d_Ref_step_129 : decode (jm_cod M_Ref_step) 129 = .ok (.ifCond .eq 25, 3) := dt_Ref_step_c3 3
theorem d_Ref_step_132 : decode (jm_cod M_Ref_step) 132 = .ok (.aload_n 0, 1) := dt_Ref_step_c3 4
theorem d_Ref_step_133 : decode (jm_cod M_Ref_step) 133 = .ok (.getfield 88, 3) := dt_Ref_step_c3 5
theorem d_Ref_step_136 : decode (jm_cod M_Ref_step) 136 = .ok (.iload_n 2, 1) := dt_Ref_step_c3 6
theorem d_Ref_step_137 : decode (jm_cod M_Ref_step) 137 = .ok (.baload, 1) := dt_Ref_step_c3 7
theorem d_Ref_step_138 : decode (jm_cod M_Ref_step) 138 = .ok (.ifCond .eq 16, 3) := dt_Ref_step_c3 8
theorem d_Ref_step_141 : decode (jm_cod M_Ref_step) 141 = .ok (.aload_n 0, 1) := dt_Ref_step_c3 9
theorem d_Ref_step_142 : decode (jm_cod M_Ref_step) 142 = .ok (.getfield 91, 3) := dt_Ref_step_c3 10
theorem d_Ref_step_145 : decode (jm_cod M_Ref_step) 145 = .ok (.iload_n 2, 1) := dt_Ref_step_c3 11
theorem d_Ref_step_146 : decode (jm_cod M_Ref_step) 146 = .ok (.baload, 1) := dt_Ref_step_c3 12
theorem d_Ref_step_147 : decode (jm_cod M_Ref_step) 147 = .ok (.ifCond .ne 7, 3) := dt_Ref_step_c3 13
theorem d_Ref_step_150 : decode (jm_cod M_Ref_step) 150 = .ok (.iconst 1, 1) := dt_Ref_step_c3 14
theorem d_Ref_step_151 : decode (jm_cod M_Ref_step) 151 = .ok (.goto 4, 3) := dt_Ref_step_c3 15
theorem d_Ref_step_154 : decode (jm_cod M_Ref_step) 154 = .ok (.iconst 0, 1) := dt_Ref_step_c3 16
theorem d_Ref_step_155 : decode (jm_cod M_Ref_step) 155 = .ok (.bastore, 1) := dt_Ref_step_c3 17
theorem d_Ref_step_156 : decode (jm_cod M_Ref_step) 156 = .ok (.iload_n 3, 1) := dt_Ref_step_c3 18
theorem d_Ref_step_157 : decode (jm_cod M_Ref_step) 157 = .ok (.ifCond .eq 47, 3) := dt_Ref_step_c3 19
theorem d_Ref_step_160 : decode (jm_cod M_Ref_step) 160 = .ok (.iinc 1 1, 3) := dt_Ref_step_c3 20
theorem d_Ref_step_163 : decode (jm_cod M_Ref_step) 163 = .ok (.aload_n 0, 1) := dt_Ref_step_c3 21
theorem d_Ref_step_164 : decode (jm_cod M_Ref_step) 164 = .ok (.getfield 103, 3) := dt_Ref_step_c3 22
theorem d_Ref_step_167 : decode (jm_cod M_Ref_step) 167 = .ok (.iload_n 2, 1) := dt_Ref_step_c3 23
def tab_Ref_step_c4 : List (Nat × Instr × Nat) := [(168, .dup2, 1), (169, .iaload, 1), (170, .iconst 1, 1), (171, .iadd, 1), (172, .iastore, 1), (173, .iload_n 2, 1), (174, .bipush 20, 2), (176, .if_icmp .ge 16, 3), (179, .aload_n 0, 1), (180, .iload_n 2, 1), (181, .iconst 5, 1), (182, .idiv, 1), (183, .iload_n 2, 1), (184, .iconst 5, 1), (185, .irem, 1), (186, .invokevirtual 590, 3), (189, .goto 15, 3), (192, .aload_n 0, 1), (193, .iload_n 2, 1), (194, .iconst 5, 1), (195, .idiv, 1), (196, .iconst 4, 1), (197, .isub, 1), (198, .iload_n 2, 1)]
theorem dt_Ref_step_c4 (i : Nat) : decode (jm_cod M_Ref_step) (tab_Ref_step_c4.getD i (168, .dup2, 1)).1 = .ok ((tab_Ref_step_c4.getD i (168, .dup2, 1)).2.1, (tab_Ref_step_c4.getD i (168, .dup2, 1)).2.2) := j_tab (by decide +kernel) i
theorem d_Ref_step_168 : decode (jm_cod M_Ref_step) 168 = .ok (.dup2, 1) := dt_Ref_step_c4 0
theorem d_Ref_step_169 : decode (jm_cod M_Ref_step) 169 = .ok (.iaload, 1) := dt_Ref_step_c4 1
theorem d_Ref_step_170 : decode (jm_cod M_Ref_step) 170 = .ok (.iconst 1, 1) := dt_Ref_step_c4 2
theorem d_Ref_step_171 : decode (jm_cod M_Ref_step) 171 = .ok (.iadd, 1) := dt_Ref_step_c4 3
theorem d_Ref_step_172 : decode (jm_cod M_Ref_step) 172 = .ok (.iastore, 1) := dt_Ref_step_c4 4
theorem d_Ref_step_173 : decode (jm_cod M_Ref_step) 173 = .ok (.iload_n 2, 1) := dt_Ref_step_c4 5
theorem d_Ref_step_174 : decode (jm_cod M_Ref_step) 174 = .ok (.bipush 20, 2) := dt_Ref_step_c4 6
theorem d_Ref_step_176 : decode (jm_cod M_Ref_step) 176 = .ok (.if_icmp .ge 16, 3) := dt_Ref_step_c4 7
theorem d_Ref_step_179 : decode (jm_cod M_Ref_step) 179 = .ok (.aload_n 0, 1) := dt_Ref_step_c4 8
theorem d_Ref_step_180 : decode (jm_cod M_Ref_step) 180 = .ok (.iload_n 2, 1) := dt_Ref_step_c4 9
theorem d_Ref_step_181 : decode (jm_cod M_Ref_step) 181 = .ok (.iconst 5, 1) := dt_Ref_step_c4 10
theorem d_Ref_step_182 : decode (jm_cod M_Ref_step) 182 = .ok (.idiv, 1) := dt_Ref_step_c4 11
theorem d_Ref_step_183 : decode (jm_cod M_Ref_step) 183 = .ok (.iload_n 2, 1) := dt_Ref_step_c4 12
theorem d_Ref_step_184 : decode (jm_cod M_Ref_step) 184 = .ok (.iconst 5, 1) := dt_Ref_step_c4 13
theorem d_Ref_step_185 : decode (jm_cod M_Ref_step) 185 = .ok (.irem, 1) := dt_Ref_step_c4 14
theorem d_Ref_step_186 : decode (jm_cod M_Ref_step) 186 = .ok (.invokevirtual 590, 3) := dt_Ref_step_c4 15
theorem d_Ref_step_189 : decode (jm_cod M_Ref_step) 189 = .ok (.goto 15, 3) := dt_Ref_step_c4 16
theorem d_Ref_step_192 : decode (jm_cod M_Ref_step) 192 = .ok (.aload_n 0, 1) := dt_Ref_step_c4 17
theorem d_Ref_step_193 : decode (jm_cod M_Ref_step) 193 = .ok (.iload_n 2, 1) := dt_Ref_step_c4 18
theorem d_Ref_step_194 : decode (jm_cod M_Ref_step) 194 = .ok (.iconst 5, 1) := dt_Ref_step_c4 19
theorem d_Ref_step_195 : decode (jm_cod M_Ref_step) 195 = .ok (.idiv, 1) := dt_Ref_step_c4 20
theorem d_Ref_step_196 : decode (jm_cod M_Ref_step) 196 = .ok (.iconst 4, 1) := dt_Ref_step_c4 21
theorem d_Ref_step_197 : decode (jm_cod M_Ref_step) 197 = .ok (.isub, 1) := dt_Ref_step_c4 22
theorem d_Ref_step_198 : decode (jm_cod M_Ref_step) 198 = .ok (.iload_n 2, 1) := dt_Ref_step_c4 23
def tab_Ref_step_c5 : List (Nat × Instr × Nat) := [(199, .iconst 5, 1), (200, .irem, 1), (201, .invokevirtual 593, 3), (204, .iinc 2 1, 3), (207, .goto (-130), 3), (210, .aload_n 0, 1), (211, .invokevirtual 596, 3), (214, .aload_n 0, 1), (215, .dup, 1), (216, .getfield 348, 3), (219, .iconst 1, 1), (220, .iadd, 1), (221, .putfield 348, 3), (224, .iload_n 1, 1), (225, .ireturn, 1)]
theorem dt_Ref_step_c5 (i : Nat) : decode (jm_cod M_Ref_step) (tab_Ref_step_c5.getD i (199, .iconst 5, 1)).1 = .ok ((tab_Ref_step_c5.getD i (199, .iconst 5, 1)).2.1, (tab_Ref_step_c5.getD i (199, .iconst 5, 1)).2.2) := j_tab (by decide +kernel) i
theorem d_Ref_step_199 : decode (jm_cod M_Ref_step) 199 = .ok (.iconst 5, 1) := dt_Ref_step_c5 0
theorem d_Ref_step_200 : decode (jm_cod M_Ref_step) 200 = .ok (.irem, 1) := dt_Ref_step_c5 1
theorem d_Ref_step_201 : decode (jm_cod M_Ref_step) 201 = .ok (.invokevirtual 593, 3) := dt_Ref_step_c5 2
theorem d_Ref_step_204 : decode (jm_cod M_Ref_step) 204 = .ok (.iinc 2 1, 3) := dt_Ref_step_c5 3
theorem d_Ref_step_207 : decode (jm_cod M_Ref_step) 207 = .ok (.goto (-130), 3) := dt_Ref_step_c5 4
theorem d_Ref_step_210 : decode (jm_cod M_Ref_step) 210 = .ok (.aload_n 0, 1) := dt_Ref_step_c5 5
theorem d_Ref_step_211 : decode (jm_cod M_Ref_step) 211 = .ok (.invokevirtual 596, 3) := dt_Ref_step_c5 6
theorem d_Ref_step_214 : decode (jm_cod M_Ref_step) 214 = .ok (.aload_n 0, 1) := dt_Ref_step_c5 7
theorem d_Ref_step_215 : decode (jm_cod M_Ref_step) 215 = .ok (.dup, 1) := dt_Ref_step_c5 8
theorem d_Ref_step_216 : decode (jm_cod M_Ref_step) 216 = .ok (.getfield 348, 3) := dt_Ref_step_c5 9
theorem d_Ref_step_219 : decode (jm_cod M_Ref_step) 219 = .ok (.iconst 1, 1) := dt_Ref_step_c5 10
theorem d_Ref_step_220 : decode (jm_cod M_Ref_step) 220 = .ok (.iadd, 1) := dt_Ref_step_c5 11
theorem d_Ref_step_221 : decode (jm_cod M_Ref_step) 221 = .ok (.putfield 348, 3) := dt_Ref_step_c5 12
theorem d_Ref_step_224 : decode (jm_cod M_Ref_step) 224 = .ok (.iload_n 1, 1) := dt_Ref_step_c5 13
theorem d_Ref_step_225 : decode (jm_cod M_Ref_step) 225 = .ok (.ireturn, 1) := dt_Ref_step_c5 14
def tab_Ref_showMaster_c0 : List (Nat × Instr × Nat) := [(0, .aload_n 0, 1), (1, .iload_n 1, 1), (2, .iconst 0, 1), (3, .invokevirtual 380, 3), (6, .aload_n 0, 1), (7, .iload_n 1, 1), (8, .invokevirtual 384, 3), (11, .aload_n 0, 1), (12, .iload_n 1, 1), (13, .iconst 3, 1), (14, .invokevirtual 380, 3), (17, .aload_n 0, 1), (18, .getfield 91, 3), (21, .iconst 5, 1), (22, .iload_n 1, 1), (23, .imul, 1), (24, .iconst 0, 1), (25, .iadd, 1), (26, .aload_n 0, 1), (27, .aload_n 0, 1), (28, .iconst 0, 1), (29, .iload_n 1, 1), (30, .iconst 0, 1), (31, .invokevirtual 388, 3)]
theorem dt_Ref_showMaster_c0 (i : Nat) : decode (jm_cod M_Ref_showMaster) (tab_Ref_showMaster_c0.getD i (0, .aload_n 0, 1)).1 = .ok ((tab_Ref_showMaster_c0.getD i (0, .aload_n 0, 1)).2.1, (tab_Ref_showMaster_c0.getD i (0, .aload_n 0, 1)).2.2) := j_tab (by decide +kernel) i
theorem d_Ref_showMaster_0 : decode (jm_cod M_Ref_showMaster) 0 = .ok (.aload_n 0, 1) := dt_Ref_showMaster_c0 0
theorem d_Ref_showMaster_1 : decode (jm_cod M_Ref_showMaster) 1 = .ok (.iload_n 1, 1) := dt_Ref_showMaster_c0 1
theorem d_Ref_showMaster_2 : decode (jm_cod M_Ref_showMaster) 2 = .ok (.iconst 0, 1) := dt_Ref_showMaster_c0 2
theorem d_Ref_showMaster_3 : decode (jm_cod M_Ref_showMaster) 3 = .ok (.invokevirtual 380, 3) := dt_Ref_showMaster_c0 3
theorem d_Ref_showMaster_6 : decode (jm_cod M_Ref_showMaster) 6 = .ok (.aload_n 0, 1) := dt_Ref_showMaster_c0 4
theorem d_Ref_showMaster_7 : decode (jm_cod M_Ref_showMaster) 7 = .ok (.iload_n 1, 1) := dt_Ref_showMaster_c0 5
theorem d_Ref_showMaster_8 : decode (jm_cod M_Ref_showMaster) 8 = .ok (.invokevirtual 384, 3) := dt_Ref_showMaster_c0 6
theorem d_Ref_showMaster_11 : decode (jm_cod M_Ref_showMaster) 11 = .ok (.aload_n 0, 1) := dt_Ref_showMaster_c0 7
theorem d_Ref_showMaster_12 : decode (jm_cod M_Ref_showMaster) 12 = .ok (.iload_n 1, 1) := dt_Ref_showMaster_c0 8
theorem d_Ref_showMaster_13 : decode (jm_cod M_Ref_showMaster) 13 = .ok (.iconst 3, 1) := dt_Ref_showMaster_c0 9
theorem d_Ref_showMaster_14 : decode (jm_cod M_Ref_showMaster) 14 = .ok (.invokevirtual 380, 3) := dt_Ref_showMaster_c0 10
theorem d_Ref_showMaster_17 : decode (jm_cod M_Ref_showMaster) 17 = .ok (.aload_n 0, 1) := dt_Ref_showMaster_c0 11
theorem d_Ref_showMaster_18 : decode (jm_cod M_Ref_showMaster) 18 = .ok (.getfield 91, 3) := dt_Ref_showMaster_c0 12
theorem d_Ref_showMaster_21 : decode (jm_cod M_Ref_showMaster) 21 = .ok (.iconst 5, 1) := dt_Ref_showMaster_c0 13
theorem d_Ref_showMaster_22 : decode (jm_cod M_Ref_showMaster) 22 = .ok (.iload_n 1, 1) := dt_Ref_showMaster_c0 14
theorem d_Ref_showMaster_23 : decode (jm_cod M_Ref_showMaster) 23 = .ok (.imul, 1) := dt_Ref_showMaster_c0 15
theorem d_Ref_showMaster_24 : decode (jm_cod M_Ref_showMaster) 24 = .ok (.iconst 0, 1) := dt_Ref_showMaster_c0 16
theorem d_Ref_showMaster_25 : decode (jm_cod M_Ref_showMaster) 25 = .ok (.iadd, 1) := dt_Ref_showMaster_c0 17
theorem d_Ref_showMaster_26 : decode (jm_cod M_Ref_showMaster) 26 = .ok (.aload_n 0, 1) := dt_Ref_showMaster_c0 18
theorem d_Ref_showMaster_27 : decode (jm_cod M_Ref_showMaster) 27 = .ok (.aload_n 0, 1) := dt_Ref_showMaster_c0 19
theorem d_Ref_showMaster_28 : decode (jm_cod M_Ref_showMaster) 28 = .ok (.iconst 0, 1) := dt_Ref_showMaster_c0 20
theorem d_Ref_showMaster_29 : decode (jm_cod M_Ref_showMaster) 29 = .ok (.iload_n 1, 1) := dt_Ref_showMaster_c0 21
theorem d_Ref_showMaster_30 : decode (jm_cod M_Ref_showMaster) 30 = .ok (.iconst 0, 1) := dt_Ref_showMaster_c0 22
theorem d_Ref_showMaster_31 : decode (jm_cod M_Ref_showMaster) 31 = .ok (.invokevirtual 388, 3) := dt_Ref_showMaster_c0 23
def tab_Ref_showMaster_c1 : List (Nat × Instr × Nat) := [(34, .invokevirtual 392, 3), (37, .bastore, 1), (38, .aload_n 0, 1), (39, .getfield 91, 3), (42, .iconst 5, 1), (43, .iload_n 1, 1), (44, .imul, 1), (45, .iconst 1, 1), (46, .iadd, 1), (47, .aload_n 0, 1), (48, .aload_n 0, 1), (49, .iconst 0, 1), (50, .iload_n 1, 1), (51, .iconst 1, 1), (52, .invokevirtual 388, 3), (55, .invokevirtual 392, 3), (58, .bastore, 1), (59, .aload_n 0, 1), (60, .getfield 91, 3), (63, .iconst 5, 1), (64, .iload_n 1, 1), (65, .imul, 1), (66, .iconst 3, 1), (67, .iadd, 1)]
theorem dt_Ref_showMaster_c1 (i : Nat) : decode (jm_cod M_Ref_showMaster) (tab_Ref_showMaster_c1.getD i (34, .invokevirtual 392, 3)).1 = .ok ((tab_Ref_showMaster_c1.getD i (34, .invokevirtual 392, 3)).2.1, (tab_Ref_showMaster_c1.getD i (34, .invokevirtual 392, 3)).2.2) := j_tab (by decide +kernel) i
theorem d_Ref_showMaster_34 : decode (jm_cod M_Ref_showMaster) 34 = .ok (.invokevirtual 392, 3) := dt_Ref_showMaster_c1 0
theorem d_Ref_showMaster_37 : decode (jm_cod M_Ref_showMaster) 37 = .ok (.bastore, 1) := dt_Ref_showMaster_c1 1
theorem d_Ref_showMaster_38 : decode (jm_cod M_Ref_showMaster) 38 = .ok (.aload_n 0, 1) := dt_Ref_showMaster_c1 2
theorem d_Ref_showMaster_39 : decode (jm_cod M_Ref_showMaster) 39 = .ok (.getfield 91, 3) := dt_Ref_showMaster_c1 3
theorem d_Ref_showMaster_42 : decode (jm_cod M_Ref_showMaster) 42 = .ok (.iconst 5, 1) := dt_Ref_showMaster_c1 4
theorem d_Ref_showMaster_43 : decode (jm_cod M_Ref_showMaster) 43 = .ok (.iload_n 1, 1) := dt_Ref_showMaster_c1 5
theorem d_Ref_showMaster_44 : decode (jm_cod M_Ref_showMaster) 44 = .ok (.imul, 1) := dt_Ref_showMaster_c1 6
theorem d_Ref_showMaster_45 : decode (jm_cod M_Ref_showMaster) 45 = .ok (.iconst 1, 1) := dt_Ref_showMaster_c1 7
theorem d_Ref_showMaster_46 : decode (jm_cod M_Ref_showMaster) 46 = .ok (.iadd, 1) := dt_Ref_showMaster_c1 8
theorem d_Ref_showMaster_47 : decode (jm_cod M_Ref_showMaster) 47 = .ok (.aload_n 0, 1) := dt_Ref_showMaster_c1 9
theorem d_Ref_showMaster_48 : decode (jm_cod M_Ref_showMaster) 48 = .ok (.aload_n 0, 1) := dt_Ref_showMaster_c1 10
theorem d_Ref_showMaster_49 : decode (jm_cod M_Ref_showMaster) 49 = .ok (.iconst 0, 1) := dt_Ref_showMaster_c1 11
theorem d_Ref_showMaster_50 : decode (jm_cod M_Ref_showMaster) 50 = .ok (.iload_n 1, 1) := dt_Ref_showMaster_c1 12
theorem d_Ref_showMaster_51 : decode (jm_cod M_Ref_showMaster) 51 = .ok (.iconst 1, 1) := dt_Ref_showMaster_c1 13
theorem d_Ref_showMaster_52 : decode (jm_cod M_Ref_showMaster) 52 = .ok (.invokevirtual 388, 3) := dt_Ref_showMaster_c1 14
theorem d_Ref_showMaster_55 : decode (jm_cod M_Ref_showMaster) 55 = .ok (.invokevirtual 392, 3) := dt_Ref_showMaster_c1 15
theorem d_Ref_showMaster_58 : decode (jm_cod M_Ref_showMaster) 58 = .ok (.bastore, 1) := dt_Ref_showMaster_c1 16
theorem d_Ref_showMaster_59 : decode (jm_cod M_Ref_showMaster) 59 = .ok (.aload_n 0, 1) := dt_Ref_showMaster_c1 17
theorem d_Ref_showMaster_60 : decode (jm_cod M_Ref_showMaster) 60 = .ok (.getfield 91, 3) := dt_Ref_showMaster_c1 18
theorem d_Ref_showMaster_63 : decode (jm_cod M_Ref_showMaster) 63 = .ok (.iconst 5, 1) := dt_Ref_showMaster_c1 19
theorem d_Ref_showMaster_64 : decode (jm_cod M_Ref_showMaster) 64 = .ok (.iload_n 1, 1) := dt_Ref_showMaster_c1 20
theorem d_Ref_showMaster_65 : decode (jm_cod M_Ref_showMaster) 65 = .ok (.imul, 1) := dt_Ref_showMaster_c1 21
theorem d_Ref_showMaster_66 : decode (jm_cod M_Ref_showMaster) 66 = .ok (.iconst 3, 1) := dt_Ref_showMaster_c1 22
theorem d_Ref_showMaster_67 : decode (jm_cod M_Ref_showMaster) 67 = .ok (.iadd, 1) := dt_Ref_showMaster_c1 23
def tab_Ref_showMaster_c2 : List (Nat × Instr × Nat) := [(68, .aload_n 0, 1), (69, .aload_n 0, 1), (70, .iconst 0, 1), (71, .iload_n 1, 1), (72, .iconst 3, 1), (73, .invokevirtual 388, 3), (76, .invokevirtual 392, 3), (79, .bastore, 1), (80, .iconst 2, 1), (81, .istore_n 2, 1), (82, .iload_n 2, 1), (83, .iconst 4, 1), (84, .if_icmp .gt 83, 3), (87, .aload_n 0, 1), (88, .iconst 0, 1), (89, .iload_n 1, 1), (90, .iload_n 2, 1), (91, .invokevirtual 388, 3), (94, .istore_n 3, 1), (95, .aload_n 0, 1), (96, .iconst 5, 1), (97, .iload_n 1, 1), (98, .imul, 1), (99, .iload_n 2, 1)]
theorem dt_Ref_showMaster_c2 (i : Nat) : decode (jm_cod M_Ref_showMaster) (tab_Ref_showMaster_c2.getD i (68, .aload_n 0, 1)).1 = .ok ((tab_Ref_showMaster_c2.getD i (68, .aload_n 0, 1)).2.1, (tab_Ref_showMaster_c2.getD i (68, .aload_n 0, 1)).2.2) := j_tab (by decide +kernel) i
theorem d_Ref_showMaster_68 : decode (jm_cod M_Ref_showMaster) 68 = .ok (.aload_n 0, 1) := dt_Ref_showMaster_c2 0
theorem d_Ref_showMaster_69 : decode (jm_cod M_Ref_showMaster) 69 = .ok (.aload_n 0, 1) := dt_Ref_showMaster_c2 1
theorem d_Ref_showMaster_70 : decode (jm_cod M_Ref_showMaster) 70 = .ok (.iconst 0, 1) := dt_Ref_showMaster_c2 2
theorem d_Ref_showMaster_71 : decode (jm_cod M_Ref_showMaster) 71 = .ok (.iload_n 1, 1) := dt_Ref_showMaster_c2 3
theorem d_Ref_showMaster_72 : decode (jm_cod M_Ref_showMaster) 72 = .ok (.iconst 3, 1) := dt_Ref_showMaster_c2 4
theorem d_Ref_showMaster_73 : decode (jm_cod M_Ref_showMaster) 73 = .ok (.invokevirtual 388, 3) := dt_Ref_showMaster_c2 5
theorem d_Ref_showMaster_76 : decode (jm_cod M_Ref_showMaster) 76 = .ok (.invokevirtual 392, 3) := dt_Ref_showMaster_c2 6
theorem d_Ref_showMaster_79 : decode (jm_cod M_Ref_showMaster) 79 = .ok (.bastore, 1) := dt_Ref_showMaster_c2 7
theorem d_Ref_showMaster_80 : decode (jm_cod M_Ref_showMaster) 80 = .ok (.iconst 2, 1) := dt_Ref_showMaster_c2 8
theorem d_Ref_showMaster_81 : decode (jm_cod M_Ref_showMaster) 81 = .ok (.istore_n 2, 1) := dt_Ref_showMaster_c2 9
theorem d_Ref_showMaster_82 : decode (jm_cod M_Ref_showMaster) 82 = .ok (.iload_n 2, 1) := dt_Ref_showMaster_c2 10
theorem d_Ref_showMaster_83 : decode (jm_cod M_Ref_showMaster) 83 = .ok (.iconst 4, 1) := dt_Ref_showMaster_c2 11
theorem d_Ref_showMaster_84 : decode (jm_cod M_Ref_showMaster) 84 = .ok (.if_icmp .gt 83, 3) := dt_Ref_showMaster_c2 12
theorem d_Ref_showMaster_87 : decode (jm_cod M_Ref_showMaster) 87 = .ok (.aload_n 0, 1) := dt_Ref_showMaster_c2 13
theorem d_Ref_showMaster_88 : decode (jm_cod M_Ref_showMaster) 88 = .ok (.iconst 0, 1) := dt_Ref_showMaster_c2 14
theorem d_Ref_showMaster_89 : decode (jm_cod M_Ref_showMaster) 89 = .ok (.iload_n 1, 1) := dt_Ref_showMaster_c2 15
theorem d_Ref_showMaster_90 : decode (jm_cod M_Ref_showMaster) 90 = .ok (.iload_n 2, 1) := dt_Ref_showMaster_c2 16
theorem d_Ref_showMaster_91 : decode (jm_cod M_Ref_showMaster) 91 = .ok (.invokevirtual 388, 3) := dt_Ref_showMaster_c2 17
theorem d_Ref_showMaster_94 : decode (jm_cod M_Ref_showMaster) 94 = .ok (.istore_n 3, 1) := dt_Ref_showMaster_c2 18
theorem d_Ref_showMaster_95 : decode (jm_cod M_Ref_showMaster) 95 = .ok (.aload_n 0, 1) := dt_Ref_showMaster_c2 19
theorem d_Ref_showMaster_96 : decode (jm_cod M_Ref_showMaster) 96 = .ok (.iconst 5, 1) := dt_Ref_showMaster_c2 20
theorem d_Ref_showMaster_97 : decode (jm_cod M_Ref_showMaster) 97 = .ok (.iload_n 1, 1) := dt_Ref_showMaster_c2 21
theorem d_Ref_showMaster_98 : decode (jm_cod M_Ref_showMaster) 98 = .ok (.imul, 1) := dt_Ref_showMaster_c2 22
theorem d_Ref_showMaster_99 : decode (jm_cod M_Ref_showMaster) 99 = .ok (.iload_n 2, 1) := dt_Ref_showMaster_c2 23
def tab_Ref_showMaster_c3 : List (Nat × Instr × Nat) := [(100, .iadd, 1), (101, .aload_n 0, 1), (102, .getfield 115, 3), (105, .iload_n 3, 1), (106, .iaload, 1), (107, .ifCond .le 7, 3), (110, .iconst 1, 1), (111, .goto 4, 3), (114, .iconst 0, 1), (115, .aload_n 0, 1), (116, .getfield 106, 3), (119, .iconst 4, 1), (120, .iload_n 3, 1), (121, .imul, 1), (122, .laload, 1), (123, .aload_n 0, 1), (124, .getfield 109, 3), (127, .iconst 4, 1), (128, .iload_n 3, 1), (129, .imul, 1), (130, .iaload, 1), (131, .invokevirtual 359, 3), (134, .aload_n 0, 1), (135, .getfield 91, 3)]
theorem dt_Ref_showMaster_c3 (i : Nat) : decode (jm_cod M_Ref_showMaster) (tab_Ref_showMaster_c3.getD i (100, .iadd, 1)).1 = .ok ((tab_Ref_showMaster_c3.getD i (100, .iadd, 1)).2.1, (tab_Ref_showMaster_c3.getD i (100, .iadd, 1)).2.2) := j_tab (by decide +kernel) i
theorem d_Ref_showMaster_100 : decode (jm_cod M_Ref_showMaster) 100 = .ok (.iadd, 1) := dt_Ref_showMaster_c3 0
theorem d_Ref_showMaster_101 : decode (jm_cod M_Ref_showMaster) 101 = .ok (.aload_n 0, 1) := dt_Ref_showMaster_c3 1
theorem d_Ref_showMaster_102 : decode (jm_cod M_Ref_showMaster) 102 = .ok (.getfield 115, 3) := dt_Ref_showMaster_c3 2
theorem d_Ref_showMaster_105 : decode (jm_cod M_Ref_showMaster) 105 = .ok (.iload_n 3, 1) := dt_Ref_showMaster_c3 3
theorem d_Ref_showMaster_106 : decode (jm_cod M_Ref_showMaster) 106 = .ok (.iaload, 1) := dt_Ref_showMaster_c3 4
theorem d_Ref_showMaster_107 : decode (jm_cod M_Ref_showMaster) 107 = .ok (.ifCond .le 7, 3) := dt_Ref_showMaster_c3 5
theorem d_Ref_showMaster_110 : decode (jm_cod M_Ref_showMaster) 110 = .ok (.iconst 1, 1) := dt_Ref_showMaster_c3 6
theorem d_Ref_showMaster_111 : decode (jm_cod M_Ref_showMaster) 111 = .ok (.goto 4, 3) := dt_Ref_showMaster_c3 7
theorem d_Ref_showMaster_114 : decode (jm_cod M_Ref_showMaster) 114 = .ok (.iconst 0, 1) := dt_Ref_showMaster_c3 8
theorem d_Ref_showMaster_115 : decode (jm_cod M_Ref_showMaster) 115 = .ok (.aload_n 0, 1) := dt_Ref_showMaster_c3 9
theorem d_Ref_showMaster_116 : decode (jm_cod M_Ref_showMaster) 116 = .ok (.getfield 106, 3) := dt_Ref_showMaster_c3 10
theorem d_Ref_showMaster_119 : decode (jm_cod M_Ref_showMaster) 119 = .ok (.iconst 4, 1) := dt_Ref_showMaster_c3 11
theorem d_Ref_showMaster_120 : decode (jm_cod M_Ref_showMaster) 120 = .ok (.iload_n 3, 1) := dt_Ref_showMaster_c3 12
theorem d_Ref_showMaster_121 : decode (jm_cod M_Ref_showMaster) 121 = .ok (.imul, 1) := dt_Ref_showMaster_c3 13
theorem d_Ref_showMaster_122 : decode (jm_cod M_Ref_showMaster) 122 = .ok (.laload, 1) := dt_Ref_showMaster_c3 14
theorem d_Ref_showMaster_123 : decode (jm_cod M_Ref_showMaster) 123 = .ok (.aload_n 0, 1) := dt_Ref_showMaster_c3 15
theorem d_Ref_showMaster_124 : decode (jm_cod M_Ref_showMaster) 124 = .ok (.getfield 109, 3) := dt_Ref_showMaster_c3 16
theorem d_Ref_showMaster_127 : decode (jm_cod M_Ref_showMaster) 127 = .ok (.iconst 4, 1) := dt_Ref_showMaster_c3 17
theorem d_Ref_showMaster_128 : decode (jm_cod M_Ref_showMaster) 128 = .ok (.iload_n 3, 1) := dt_Ref_showMaster_c3 18
theorem d_Ref_showMaster_129 : decode (jm_cod M_Ref_showMaster) 129 = .ok (.imul, 1) := dt_Ref_showMaster_c3 19
theorem d_Ref_showMaster_130 : decode (jm_cod M_Ref_showMaster) 130 = .ok (.iaload, 1) := dt_Ref_showMaster_c3 20
theorem d_Ref_showMaster_131 : decode (jm_cod M_Ref_showMaster) 131 = .ok (.invokevirtual 359, 3) := dt_Ref_showMaster_c3 21
theorem d_Ref_showMaster_134 : decode (jm_cod M_Ref_showMaster) 134 = .ok (.aload_n 0, 1) := dt_Ref_showMaster_c3 22
theorem d_Ref_showMaster_135 : decode (jm_cod M_Ref_showMaster) 135 = .ok (.getfield 91, 3) := dt_Ref_showMaster_c3 23
def tab_Ref_showMaster_c4 : List (Nat × Instr × Nat) := [(138, .iconst 5, 1), (139, .iload_n 1, 1), (140, .imul, 1), (141, .iload_n 2, 1), (142, .iadd, 1), (143, .aload_n 0, 1), (144, .getfield 13, 3), (147, .iconst 5, 1), (148, .iload_n 1, 1), (149, .imul, 1), (150, .iload_n 2, 1), (151, .iadd, 1), (152, .iaload, 1), (153, .aload_n 0, 1), (154, .getfield 348, 3), (157, .invokestatic 351, 3), (160, .bastore, 1), (161, .iinc 2 2, 3), (164, .goto (-82), 3), (167, .return_, 1)]
theorem dt_Ref_showMaster_c4 (i : Nat) : decode (jm_cod M_Ref_showMaster) (tab_Ref_showMaster_c4.getD i (138, .iconst 5, 1)).1 = .ok ((tab_Ref_showMaster_c4.getD i (138, .iconst 5, 1)).2.1, (tab_Ref_showMaster_c4.getD i (138, .iconst 5, 1)).2.2) := j_tab (by decide +kernel) i
theorem d_Ref_showMaster_138 : decode (jm_cod M_Ref_showMaster) 138 = .ok (.iconst 5, 1) := dt_Ref_showMaster_c4 0
theorem d_Ref_showMaster_139 : decode (jm_cod M_Ref_showMaster) 139 = .ok (.iload_n 1, 1) := dt_Ref_showMaster_c4 1
theorem d_Ref_showMaster_140 : decode (jm_cod M_Ref_showMaster) 140 = .ok (.imul, 1) := dt_Ref_showMaster_c4 2
theorem d_Ref_showMaster_141 : decode (jm_cod M_Ref_showMaster) 141 = .ok (.iload_n 2, 1) := dt_Ref_showMaster_c4 3
theorem d_Ref_showMaster_142 : decode (jm_cod M_Ref_showMaster) 142 = .ok (.iadd, 1) := dt_Ref_showMaster_c4 4
theorem d_Ref_showMaster_143 : decode (jm_cod M_Ref_showMaster) 143 = .ok (.aload_n 0, 1) := dt_Ref_showMaster_c4 5
theorem d_Ref_showMaster_144 : decode (jm_cod M_Ref_showMaster) 144 = .ok (.getfield 13, 3) := dt_Ref_showMaster_c4 6
theorem d_Ref_showMaster_147 : decode (jm_cod M_Ref_showMaster) 147 = .ok (.iconst 5, 1) := dt_Ref_showMaster_c4 7
theorem d_Ref_showMaster_148 : decode (jm_cod M_Ref_showMaster) 148 = .ok (.iload_n 1, 1) := dt_Ref_showMaster_c4 8
theorem d_Ref_showMaster_149 : decode (jm_cod M_Ref_showMaster) 149 = .ok (.imul, 1) := dt_Ref_showMaster_c4 9
theorem d_Ref_showMaster_150 : decode (jm_cod M_Ref_showMaster) 150 = .ok (.iload_n 2, 1) := dt_Ref_showMaster_c4 10
theorem d_Ref_showMaster_151 : decode (jm_cod M_Ref_showMaster) 151 = .ok (.iadd, 1) := dt_Ref_showMaster_c4 11
theorem d_Ref_showMaster_152 : decode (jm_cod M_Ref_showMaster) 152 = .ok (.iaload, 1) := dt_Ref_showMaster_c4 12
theorem d_Ref_showMaster_153 : decode (jm_cod M_Ref_showMaster) 153 = .ok (.aload_n 0, 1) := dt_Ref_showMaster_c4 13
theorem d_Ref_showMaster_154 : decode (jm_cod M_Ref_showMaster) 154 = .ok (.getfield 348, 3) := dt_Ref_showMaster_c4 14
theorem d_Ref_showMaster_157 : decode (jm_cod M_Ref_showMaster) 157 = .ok (.invokestatic 351, 3) := dt_Ref_showMaster_c4 15
theorem d_Ref_showMaster_160 : decode (jm_cod M_Ref_showMaster) 160 = .ok (.bastore, 1) := dt_Ref_showMaster_c4 16
theorem d_Ref_showMaster_161 : decode (jm_cod M_Ref_showMaster) 161 = .ok (.iinc 2 2, 3) := dt_Ref_showMaster_c4 17
theorem d_Ref_showMaster_164 : decode (jm_cod M_Ref_showMaster) 164 = .ok (.goto (-82), 3) := dt_Ref_showMaster_c4 18
theorem d_Ref_showMaster_167 : decode (jm_cod M_Ref_showMaster) 167 = .ok (.return_, 1) := dt_Ref_showMaster_c4 19
def tab_Ref_showAddress_c0 : List (Nat × Instr × Nat) := [(0, .iconst 5, 1), (1, .iload_n 1, 1), (2, .imul, 1), (3, .iload_n 2, 1), (4, .iadd, 1), (5, .istore_n 3, 1), (6, .aload_n 0, 1), (7, .iload_n 1, 1), (8, .iload_n 2, 1), (9, .ifCond .ne 7, 3), (12, .iconst 1, 1), (13, .goto 4, 3), (16, .iconst 0, 1), (17, .invokevirtual 344, 3), (20, .istore 4, 2), (22, .aload_n 0, 1), (23, .getfield 100, 3), (26, .iload_n 3, 1), (27, .baload, 1), (28, .ifCond .ne 25, 3), (31, .iload 4, 2), (33, .iconst (-1), 1), (34, .if_icmp .eq 23, 3), (37, .aload_n 0, 1)]
theorem dt_Ref_showAddress_c0 (i : Nat) : decode (jm_cod M_Ref_showAddress) (tab_Ref_showAddress_c0.getD i (0, .iconst 5, 1)).1 = .ok ((tab_Ref_showAddress_c0.getD i (0, .iconst 5, 1)).2.1, (tab_Ref_showAddress_c0.getD i (0, .iconst 5, 1)).2.2) := j_tab (by decide +kernel) i
theorem d_Ref_showAddress_0 : decode (jm_cod M_Ref_showAddress) 0 = .ok (.iconst 5, 1) := dt_Ref_showAddress_c0 0
theorem d_Ref_showAddress_1 : decode (jm_cod M_Ref_showAddress) 1 = .ok (.iload_n 1, 1) := dt_Ref_showAddress_c0 1
theorem d_Ref_showAddress_2 : decode (jm_cod M_Ref_showAddress) 2 = .ok (.imul, 1) := dt_Ref_showAddress_c0 2
theorem d_Ref_showAddress_3 : decode (jm_cod M_Ref_showAddress) 3 = .ok (.iload_n 2, 1) := dt_Ref_showAddress_c0 3
theorem d_Ref_showAddress_4 : decode (jm_cod M_Ref_showAddress) 4 = .ok (.iadd, 1) := dt_Ref_showAddress_c0 4
theorem d_Ref_showAddress_5 : decode (jm_cod M_Ref_showAddress) 5 = .ok (.istore_n 3, 1) := dt_Ref_showAddress_c0 5
theorem d_Ref_showAddress_6 : decode (jm_cod M_Ref_showAddress) 6 = .ok (.aload_n 0, 1) := dt_Ref_showAddress_c0 6
theorem d_Ref_showAddress_7 : decode (jm_cod M_Ref_showAddress) 7 = .ok (.iload_n 1, 1) := dt_Ref_showAddress_c0 7
theorem d_Ref_showAddress_8 : decode (jm_cod M_Ref_showAddress) 8 = .ok (.iload_n 2, 1) := dt_Ref_showAddress_c0 8
theorem d_Ref_showAddress_9 : decode (jm_cod M_Ref_showAddress) 9 = .ok (.ifCond .ne 7, 3) := dt_Ref_showAddress_c0 9
theorem d_Ref_showAddress_12 : decode (jm_cod M_Ref_showAddress) 12 = .ok (.iconst 1, 1) := dt_Ref_showAddress_c0 10
theorem d_Ref_showAddress_13 : decode (jm_cod M_Ref_showAddress) 13 = .ok (.goto 4, 3) := dt_Ref_showAddress_c0 11
theorem d_Ref_showAddress_16 : decode (jm_cod M_Ref_showAddress) 16 = .ok (.iconst 0, 1) := dt_Ref_showAddress_c0 12
theorem d_Ref_showAddress_17 : decode (jm_cod M_Ref_showAddress) 17 = .ok (.invokevirtual 344, 3) := dt_Ref_showAddress_c0 13
theorem d_Ref_showAddress_20 : decode (jm_cod M_Ref_showAddress) 20 = .ok (.istore 4, 2) := dt_Ref_showAddress_c0 14
theorem d_Ref_showAddress_22 : decode (jm_cod M_Ref_showAddress) 22 = .ok (.aload_n 0, 1) := dt_Ref_showAddress_c0 15
theorem d_Ref_showAddress_23 : decode (jm_cod M_Ref_showAddress) 23 = .ok (.getfield 100, 3) := dt_Ref_showAddress_c0 16
theorem d_Ref_showAddress_26 : decode (jm_cod M_Ref_showAddress) 26 = .ok (.iload_n 3, 1) := dt_Ref_showAddress_c0 17
theorem d_Ref_showAddress_27 : decode (jm_cod M_Ref_showAddress) 27 = .ok (.baload, 1) := dt_Ref_showAddress_c0 18
theorem d_Ref_showAddress_28 : decode (jm_cod M_Ref_showAddress) 28 = .ok (.ifCond .ne 25, 3) := dt_Ref_showAddress_c0 19
theorem d_Ref_showAddress_31 : decode (jm_cod M_Ref_showAddress) 31 = .ok (.iload 4, 2) := dt_Ref_showAddress_c0 20
theorem d_Ref_showAddress_33 : decode (jm_cod M_Ref_showAddress) 33 = .ok (.iconst (-1), 1) := dt_Ref_showAddress_c0 21
theorem d_Ref_showAddress_34 : decode (jm_cod M_Ref_showAddress) 34 = .ok (.if_icmp .eq 23, 3) := dt_Ref_showAddress_c0 22
theorem d_Ref_showAddress_37 : decode (jm_cod M_Ref_showAddress) 37 = .ok (.aload_n 0, 1) := dt_Ref_showAddress_c0 23
def tab_Ref_showAddress_c1 : List (Nat × Instr × Nat) := [(38, .getfield 13, 3), (41, .iload_n 3, 1), (42, .iaload, 1), (43, .aload_n 0, 1), (44, .getfield 348, 3), (47, .invokestatic 351, 3), (50, .ifCond .eq 7, 3), (53, .iconst 1, 1), (54, .goto 4, 3), (57, .iconst 0, 1), (58, .istore 5, 2), (60, .aload_n 0, 1), (61, .iload_n 3, 1), (62, .iload 5, 2), (64, .iload 4, 2), (66, .iconst (-1), 1), (67, .if_icmp .ne 7, 3), (70, .lconst 0, 1), (71, .goto 9, 3), (74, .aload_n 0, 1), (75, .iload 4, 2), (77, .invokevirtual 355, 3), (80, .iconst 0, 1), (81, .invokevirtual 359, 3)]
theorem dt_Ref_showAddress_c1 (i : Nat) : decode (jm_cod M_Ref_showAddress) (tab_Ref_showAddress_c1.getD i (38, .getfield 13, 3)).1 = .ok ((tab_Ref_showAddress_c1.getD i (38, .getfield 13, 3)).2.1, (tab_Ref_showAddress_c1.getD i (38, .getfield 13, 3)).2.2) := j_tab (by decide +kernel) i
theorem d_Ref_showAddress_38 : decode (jm_cod M_Ref_showAddress) 38 = .ok (.getfield 13, 3) := dt_Ref_showAddress_c1 0
theorem d_Ref_showAddress_41 : decode (jm_cod M_Ref_showAddress) 41 = .ok (.iload_n 3, 1) := dt_Ref_showAddress_c1 1
theorem d_Ref_showAddress_42 : decode (jm_cod M_Ref_showAddress) 42 = .ok (.iaload, 1) := dt_Ref_showAddress_c1 2
theorem d_Ref_showAddress_43 : decode (jm_cod M_Ref_showAddress) 43 = .ok (.aload_n 0, 1) := dt_Ref_showAddress_c1 3
theorem d_Ref_showAddress_44 : decode (jm_cod M_Ref_showAddress) 44 = .ok (.getfield 348, 3) := dt_Ref_showAddress_c1 4
theorem d_Ref_showAddress_47 : decode (jm_cod M_Ref_showAddress) 47 = .ok (.invokestatic 351, 3) := dt_Ref_showAddress_c1 5
theorem d_Ref_showAddress_50 : decode (jm_cod M_Ref_showAddress) 50 = .ok (.ifCond .eq 7, 3) := dt_Ref_showAddress_c1 6
theorem d_Ref_showAddress_53 : decode (jm_cod M_Ref_showAddress) 53 = .ok (.iconst 1, 1) := dt_Ref_showAddress_c1 7
theorem d_Ref_showAddress_54 : decode (jm_cod M_Ref_showAddress) 54 = .ok (.goto 4, 3) := dt_Ref_showAddress_c1 8
theorem d_Ref_showAddress_57 : decode (jm_cod M_Ref_showAddress) 57 = .ok (.iconst 0, 1) := dt_Ref_showAddress_c1 9
theorem d_Ref_showAddress_58 : decode (jm_cod M_Ref_showAddress) 58 = .ok (.istore 5, 2) := dt_Ref_showAddress_c1 10
theorem d_Ref_showAddress_60 : decode (jm_cod M_Ref_showAddress) 60 = .ok (.aload_n 0, 1) := dt_Ref_showAddress_c1 11
theorem d_Ref_showAddress_61 : decode (jm_cod M_Ref_showAddress) 61 = .ok (.iload_n 3, 1) := dt_Ref_showAddress_c1 12
theorem d_Ref_showAddress_62 : decode (jm_cod M_Ref_showAddress) 62 = .ok (.iload 5, 2) := dt_Ref_showAddress_c1 13
theorem d_Ref_showAddress_64 : decode (jm_cod M_Ref_showAddress) 64 = .ok (.iload 4, 2) := dt_Ref_showAddress_c1 14
theorem d_Ref_showAddress_66 : decode (jm_cod M_Ref_showAddress) 66 = .ok (.iconst (-1), 1) := dt_Ref_showAddress_c1 15
theorem d_Ref_showAddress_67 : decode (jm_cod M_Ref_showAddress) 67 = .ok (.if_icmp .ne 7, 3) := dt_Ref_showAddress_c1 16
theorem d_Ref_showAddress_70 : decode (jm_cod M_Ref_showAddress) 70 = .ok (.lconst 0, 1) := dt_Ref_showAddress_c1 17
theorem d_Ref_showAddress_71 : decode (jm_cod M_Ref_showAddress) 71 = .ok (.goto 9, 3) := dt_Ref_showAddress_c1 18
theorem d_Ref_showAddress_74 : decode (jm_cod M_Ref_showAddress) 74 = .ok (.aload_n 0, 1) := dt_Ref_showAddress_c1 19
theorem d_Ref_showAddress_75 : decode (jm_cod M_Ref_showAddress) 75 = .ok (.iload 4, 2) := dt_Ref_showAddress_c1 20
theorem d_Ref_showAddress_77 : decode (jm_cod M_Ref_showAddress) 77 = .ok (.invokevirtual 355, 3) := dt_Ref_showAddress_c1 21
theorem d_Ref_showAddress_80 : decode (jm_cod M_Ref_showAddress) 80 = .ok (.iconst 0, 1) := dt_Ref_showAddress_c1 22
theorem d_Ref_showAddress_81 : decode (jm_cod M_Ref_showAddress) 81 = .ok (.invokevirtual 359, 3) := dt_Ref_showAddress_c1 23
def tab_Ref_showAddress_c2 : List (Nat × Instr × Nat) := [(84, .return_, 1)]
theorem dt_Ref_showAddress_c2 (i : Nat) : decode (jm_cod M_Ref_showAddress) (tab_Ref_showAddress_c2.getD i (84, .return_, 1)).1 = .ok ((tab_Ref_showAddress_c2.getD i (84, .return_, 1)).2.1, (tab_Ref_showAddress_c2.getD i (84, .return_, 1)).2.2) := j_tab (by decide +kernel) i
theorem d_Ref_showAddress_84 : decode (jm_cod M_Ref_showAddress) 84 = .ok (.return_, 1) := dt_Ref_showAddress_c2 0
def tab_Ref_unsent_c0 : List (Nat × Instr × Nat) := [(0, .iconst 0, 1), (1, .istore_n 3, 1), (2, .iload_n 3, 1), (3, .aload_n 0, 1), (4, .getfield 337, 3), (7, .if_icmp .ge 41, 3), (10, .aload_n 0, 1), (11, .getfield 36, 3), (14, .iload_n 3, 1), (15, .iaload, 1), (16, .iload_n 1, 1), (17, .if_icmp .ne 25, 3), (20, .aload_n 0, 1), (21, .getfield 48, 3), (24, .iload_n 3, 1), (25, .baload, 1), (26, .iload_n 2, 1), (27, .if_icmp .ne 15, 3), (30, .aload_n 0, 1), (31, .getfield 73, 3), (34, .iload_n 3, 1), (35, .iaload, 1), (36, .iconst (-1), 1), (37, .if_icmp .ne 5, 3)]
theorem dt_Ref_unsent_c0 (i : Nat) : decode (jm_cod M_Ref_unsent) (tab_Ref_unsent_c0.getD i (0, .iconst 0, 1)).1 = .ok ((tab_Ref_unsent_c0.getD i (0, .iconst 0, 1)).2.1, (tab_Ref_unsent_c0.getD i (0, .iconst 0, 1)).2.2) := j_tab (by decide +kernel) i
theorem d_Ref_unsent_0 : decode (jm_cod M_Ref_unsent) 0 = .ok (.iconst 0, 1) := dt_Ref_unsent_c0 0
theorem d_Ref_unsent_1 : decode (jm_cod M_Ref_unsent) 1 = .ok (.istore_n 3, 1) := dt_Ref_unsent_c0 1
theorem d_Ref_unsent_2 : decode (jm_cod M_Ref_unsent) 2 = .ok (.iload_n 3, 1) := dt_Ref_unsent_c0 2
theorem d_Ref_unsent_3 : decode (jm_cod M_Ref_unsent) 3 = .ok (.aload_n 0, 1) := dt_Ref_unsent_c0 3
theorem d_Ref_unsent_4 : decode (jm_cod M_Ref_unsent) 4 = .ok (.getfield 337, 3) := dt_Ref_unsent_c0 4
theorem d_Ref_unsent_7 : decode (jm_cod M_Ref_unsent) 7 = .ok (.if_icmp .ge 41, 3) := dt_Ref_unsent_c0 5
theorem d_Ref_unsent_10 : decode (jm_cod M_Ref_unsent) 10 = .ok (.aload_n 0, 1) := dt_Ref_unsent_c0 6
theorem d_Ref_unsent_11 : decode (jm_cod M_Ref_unsent) 11 = .ok (.getfield 36, 3) := dt_Ref_unsent_c0 7
theorem d_Ref_unsent_14 : decode (jm_cod M_Ref_unsent) 14 = .ok (.iload_n 3, 1) := dt_Ref_unsent_c0 8
theorem d_Ref_unsent_15 : decode (jm_cod M_Ref_unsent) 15 = .ok (.iaload, 1) := dt_Ref_unsent_c0 9
theorem d_Ref_unsent_16 : decode (jm_cod M_Ref_unsent) 16 = .ok (.iload_n 1, 1) := dt_Ref_unsent_c0 10
theorem d_Ref_unsent_17 : decode (jm_cod M_Ref_unsent) 17 = .ok (.if_icmp .ne 25, 3) := dt_Ref_unsent_c0 11
theorem d_Ref_unsent_20 : decode (jm_cod M_Ref_unsent) 20 = .ok (.aload_n 0, 1) := dt_Ref_unsent_c0 12
theorem d_Ref_unsent_21 : decode (jm_cod M_Ref_unsent) 21 = .ok (.getfield 48, 3) := dt_Ref_unsent_c0 13
theorem d_Ref_unsent_24 : decode (jm_cod M_Ref_unsent) 24 = .ok (.iload_n 3, 1) := dt_Ref_unsent_c0 14
theorem d_Ref_unsent_25 : decode (jm_cod M_Ref_unsent) 25 = .ok (.baload, 1) := dt_Ref_unsent_c0 15
theorem d_Ref_unsent_26 : decode (jm_cod M_Ref_unsent) 26 = .ok (.iload_n 2, 1) := dt_Ref_unsent_c0 16
theorem d_Ref_unsent_27 : decode (jm_cod M_Ref_unsent) 27 = .ok (.if_icmp .ne 15, 3) := dt_Ref_unsent_c0 17
theorem d_Ref_unsent_30 : decode (jm_cod M_Ref_unsent) 30 = .ok (.aload_n 0, 1) := dt_Ref_unsent_c0 18
theorem d_Ref_unsent_31 : decode (jm_cod M_Ref_unsent) 31 = .ok (.getfield 73, 3) := dt_Ref_unsent_c0 19
theorem d_Ref_unsent_34 : decode (jm_cod M_Ref_unsent) 34 = .ok (.iload_n 3, 1) := dt_Ref_unsent_c0 20
theorem d_Ref_unsent_35 : decode (jm_cod M_Ref_unsent) 35 = .ok (.iaload, 1) := dt_Ref_unsent_c0 21
theorem d_Ref_unsent_36 : decode (jm_cod M_Ref_unsent) 36 = .ok (.iconst (-1), 1) := dt_Ref_unsent_c0 22
theorem d_Ref_unsent_37 : decode (jm_cod M_Ref_unsent) 37 = .ok (.if_icmp .ne 5, 3) := dt_Ref_unsent_c0 23
def tab_Ref_unsent_c1 : List (Nat × Instr × Nat) := [(40, .iload_n 3, 1), (41, .ireturn, 1), (42, .iinc 3 1, 3), (45, .goto (-43), 3), (48, .iconst (-1), 1), (49, .ireturn, 1)]
theorem dt_Ref_unsent_c1 (i : Nat) : decode (jm_cod M_Ref_unsent) (tab_Ref_unsent_c1.getD i (40, .iload_n 3, 1)).1 = .ok ((tab_Ref_unsent_c1.getD i (40, .iload_n 3, 1)).2.1, (tab_Ref_unsent_c1.getD i (40, .iload_n 3, 1)).2.2) := j_tab (by decide +kernel) i
theorem d_Ref_unsent_40 : decode (jm_cod M_Ref_unsent) 40 = .ok (.iload_n 3, 1) := dt_Ref_unsent_c1 0
theorem d_Ref_unsent_41 : decode (jm_cod M_Ref_unsent) 41 = .ok (.ireturn, 1) := dt_Ref_unsent_c1 1
theorem d_Ref_unsent_42 : decode (jm_cod M_Ref_unsent) 42 = .ok (.iinc 3 1, 3) := dt_Ref_unsent_c1 2
theorem d_Ref_unsent_45 : decode (jm_cod M_Ref_unsent) 45 = .ok (.goto (-43), 3) := dt_Ref_unsent_c1 3
theorem d_Ref_unsent_48 : decode (jm_cod M_Ref_unsent) 48 = .ok (.iconst (-1), 1) := dt_Ref_unsent_c1 4
theorem d_Ref_unsent_49 : decode (jm_cod M_Ref_unsent) 49 = .ok (.ireturn, 1) := dt_Ref_unsent_c1 5
def tab_Ref_tells_c0 : List (Nat × Instr × Nat) := [(0, .iload_n 0, 1), (1, .iload_n 1, 1), (2, .bipush 16, 2), (4, .irem, 1), (5, .ishr, 1), (6, .iconst 1, 1), (7, .iand, 1), (8, .iconst 1, 1), (9, .if_icmp .ne 7, 3), (12, .iconst 1, 1), (13, .goto 4, 3), (16, .iconst 0, 1), (17, .ireturn, 1)]
theorem dt_Ref_tells_c0 (i : Nat) : decode (jm_cod M_Ref_tells) (tab_Ref_tells_c0.getD i (0, .iload_n 0, 1)).1 = .ok ((tab_Ref_tells_c0.getD i (0, .iload_n 0, 1)).2.1, (tab_Ref_tells_c0.getD i (0, .iload_n 0, 1)).2.2) := j_tab (by decide +kernel) i
theorem d_Ref_tells_0 : decode (jm_cod M_Ref_tells) 0 = .ok (.iload_n 0, 1) := dt_Ref_tells_c0 0
theorem d_Ref_tells_1 : decode (jm_cod M_Ref_tells) 1 = .ok (.iload_n 1, 1) := dt_Ref_tells_c0 1
theorem d_Ref_tells_2 : decode (jm_cod M_Ref_tells) 2 = .ok (.bipush 16, 2) := dt_Ref_tells_c0 2
theorem d_Ref_tells_4 : decode (jm_cod M_Ref_tells) 4 = .ok (.irem, 1) := dt_Ref_tells_c0 3
theorem d_Ref_tells_5 : decode (jm_cod M_Ref_tells) 5 = .ok (.ishr, 1) := dt_Ref_tells_c0 4
theorem d_Ref_tells_6 : decode (jm_cod M_Ref_tells) 6 = .ok (.iconst 1, 1) := dt_Ref_tells_c0 5
theorem d_Ref_tells_7 : decode (jm_cod M_Ref_tells) 7 = .ok (.iand, 1) := dt_Ref_tells_c0 6
theorem d_Ref_tells_8 : decode (jm_cod M_Ref_tells) 8 = .ok (.iconst 1, 1) := dt_Ref_tells_c0 7
theorem d_Ref_tells_9 : decode (jm_cod M_Ref_tells) 9 = .ok (.if_icmp .ne 7, 3) := dt_Ref_tells_c0 8
theorem d_Ref_tells_12 : decode (jm_cod M_Ref_tells) 12 = .ok (.iconst 1, 1) := dt_Ref_tells_c0 9
theorem d_Ref_tells_13 : decode (jm_cod M_Ref_tells) 13 = .ok (.goto 4, 3) := dt_Ref_tells_c0 10
theorem d_Ref_tells_16 : decode (jm_cod M_Ref_tells) 16 = .ok (.iconst 0, 1) := dt_Ref_tells_c0 11
theorem d_Ref_tells_17 : decode (jm_cod M_Ref_tells) 17 = .ok (.ireturn, 1) := dt_Ref_tells_c0 12
def tab_Ref_burstOf_c0 : List (Nat × Instr × Nat) := [(0, .aload_n 0, 1), (1, .getfield 63, 3), (4, .iload_n 1, 1), (5, .iaload, 1), (6, .i2l, 1), (7, .ldc2_w 340, 3), (10, .aload_n 0, 1), (11, .getfield 60, 3), (14, .iload_n 1, 1), (15, .iaload, 1), (16, .i2l, 1), (17, .lmul, 1), (18, .ladd, 1), (19, .aload_n 0, 1), (20, .getfield 39, 3), (23, .iload_n 1, 1), (24, .iaload, 1), (25, .i2l, 1), (26, .lconst 1, 1), (27, .lsub, 1), (28, .bipush 22, 2), (30, .lshl, 1), (31, .ladd, 1), (32, .aload_n 0, 1)]
theorem dt_Ref_burstOf_c0 (i : Nat) : decode (jm_cod M_Ref_burstOf) (tab_Ref_burstOf_c0.getD i (0, .aload_n 0, 1)).1 = .ok ((tab_Ref_burstOf_c0.getD i (0, .aload_n 0, 1)).2.1, (tab_Ref_burstOf_c0.getD i (0, .aload_n 0, 1)).2.2) := j_tab (by decide +kernel) i
theorem d_Ref_burstOf_0 : decode (jm_cod M_Ref_burstOf) 0 = .ok (.aload_n 0, 1) := dt_Ref_burstOf_c0 0
theorem d_Ref_burstOf_1 : decode (jm_cod M_Ref_burstOf) 1 = .ok (.getfield 63, 3) := dt_Ref_burstOf_c0 1
theorem d_Ref_burstOf_4 : decode (jm_cod M_Ref_burstOf) 4 = .ok (.iload_n 1, 1) := dt_Ref_burstOf_c0 2
theorem d_Ref_burstOf_5 : decode (jm_cod M_Ref_burstOf) 5 = .ok (.iaload, 1) := dt_Ref_burstOf_c0 3
theorem d_Ref_burstOf_6 : decode (jm_cod M_Ref_burstOf) 6 = .ok (.i2l, 1) := dt_Ref_burstOf_c0 4
theorem d_Ref_burstOf_7 : decode (jm_cod M_Ref_burstOf) 7 = .ok (.ldc2_w 340, 3) := dt_Ref_burstOf_c0 5
theorem d_Ref_burstOf_10 : decode (jm_cod M_Ref_burstOf) 10 = .ok (.aload_n 0, 1) := dt_Ref_burstOf_c0 6
theorem d_Ref_burstOf_11 : decode (jm_cod M_Ref_burstOf) 11 = .ok (.getfield 60, 3) := dt_Ref_burstOf_c0 7
theorem d_Ref_burstOf_14 : decode (jm_cod M_Ref_burstOf) 14 = .ok (.iload_n 1, 1) := dt_Ref_burstOf_c0 8
theorem d_Ref_burstOf_15 : decode (jm_cod M_Ref_burstOf) 15 = .ok (.iaload, 1) := dt_Ref_burstOf_c0 9
theorem d_Ref_burstOf_16 : decode (jm_cod M_Ref_burstOf) 16 = .ok (.i2l, 1) := dt_Ref_burstOf_c0 10
theorem d_Ref_burstOf_17 : decode (jm_cod M_Ref_burstOf) 17 = .ok (.lmul, 1) := dt_Ref_burstOf_c0 11
theorem d_Ref_burstOf_18 : decode (jm_cod M_Ref_burstOf) 18 = .ok (.ladd, 1) := dt_Ref_burstOf_c0 12
theorem d_Ref_burstOf_19 : decode (jm_cod M_Ref_burstOf) 19 = .ok (.aload_n 0, 1) := dt_Ref_burstOf_c0 13
theorem d_Ref_burstOf_20 : decode (jm_cod M_Ref_burstOf) 20 = .ok (.getfield 39, 3) := dt_Ref_burstOf_c0 14
theorem d_Ref_burstOf_23 : decode (jm_cod M_Ref_burstOf) 23 = .ok (.iload_n 1, 1) := dt_Ref_burstOf_c0 15
theorem d_Ref_burstOf_24 : decode (jm_cod M_Ref_burstOf) 24 = .ok (.iaload, 1) := dt_Ref_burstOf_c0 16
theorem d_Ref_burstOf_25 : decode (jm_cod M_Ref_burstOf) 25 = .ok (.i2l, 1) := dt_Ref_burstOf_c0 17
theorem d_Ref_burstOf_26 : decode (jm_cod M_Ref_burstOf) 26 = .ok (.lconst 1, 1) := dt_Ref_burstOf_c0 18
theorem d_Ref_burstOf_27 : decode (jm_cod M_Ref_burstOf) 27 = .ok (.lsub, 1) := dt_Ref_burstOf_c0 19
theorem d_Ref_burstOf_28 : decode (jm_cod M_Ref_burstOf) 28 = .ok (.bipush 22, 2) := dt_Ref_burstOf_c0 20
theorem d_Ref_burstOf_30 : decode (jm_cod M_Ref_burstOf) 30 = .ok (.lshl, 1) := dt_Ref_burstOf_c0 21
theorem d_Ref_burstOf_31 : decode (jm_cod M_Ref_burstOf) 31 = .ok (.ladd, 1) := dt_Ref_burstOf_c0 22
theorem d_Ref_burstOf_32 : decode (jm_cod M_Ref_burstOf) 32 = .ok (.aload_n 0, 1) := dt_Ref_burstOf_c0 23
def tab_Ref_burstOf_c1 : List (Nat × Instr × Nat) := [(33, .getfield 42, 3), (36, .iload_n 1, 1), (37, .iaload, 1), (38, .i2l, 1), (39, .bipush 26, 2), (41, .lshl, 1), (42, .ladd, 1), (43, .aload_n 0, 1), (44, .getfield 45, 3), (47, .iload_n 1, 1), (48, .iaload, 1), (49, .i2l, 1), (50, .bipush 28, 2), (52, .lshl, 1), (53, .ladd, 1), (54, .aload_n 0, 1), (55, .getfield 51, 3), (58, .iload_n 1, 1), (59, .baload, 1), (60, .ifCond .eq 9, 3), (63, .ldc2_w 342, 3), (66, .goto 4, 3), (69, .lconst 0, 1), (70, .ladd, 1)]
theorem dt_Ref_burstOf_c1 (i : Nat) : decode (jm_cod M_Ref_burstOf) (tab_Ref_burstOf_c1.getD i (33, .getfield 42, 3)).1 = .ok ((tab_Ref_burstOf_c1.getD i (33, .getfield 42, 3)).2.1, (tab_Ref_burstOf_c1.getD i (33, .getfield 42, 3)).2.2) := j_tab (by decide +kernel) i
theorem d_Ref_burstOf_33 : decode (jm_cod M_Ref_burstOf) 33 = .ok (.getfield 42, 3) := dt_Ref_burstOf_c1 0
theorem d_Ref_burstOf_36 : decode (jm_cod M_Ref_burstOf) 36 = .ok (.iload_n 1, 1) := dt_Ref_burstOf_c1 1
theorem d_Ref_burstOf_37 : decode (jm_cod M_Ref_burstOf) 37 = .ok (.iaload, 1) := dt_Ref_burstOf_c1 2
theorem d_Ref_burstOf_38 : decode (jm_cod M_Ref_burstOf) 38 = .ok (.i2l, 1) := dt_Ref_burstOf_c1 3
theorem d_Ref_burstOf_39 : decode (jm_cod M_Ref_burstOf) 39 = .ok (.bipush 26, 2) := dt_Ref_burstOf_c1 4
theorem d_Ref_burstOf_41 : decode (jm_cod M_Ref_burstOf) 41 = .ok (.lshl, 1) := dt_Ref_burstOf_c1 5
theorem d_Ref_burstOf_42 : decode (jm_cod M_Ref_burstOf) 42 = .ok (.ladd, 1) := dt_Ref_burstOf_c1 6
theorem d_Ref_burstOf_43 : decode (jm_cod M_Ref_burstOf) 43 = .ok (.aload_n 0, 1) := dt_Ref_burstOf_c1 7
theorem d_Ref_burstOf_44 : decode (jm_cod M_Ref_burstOf) 44 = .ok (.getfield 45, 3) := dt_Ref_burstOf_c1 8
theorem d_Ref_burstOf_47 : decode (jm_cod M_Ref_burstOf) 47 = .ok (.iload_n 1, 1) := dt_Ref_burstOf_c1 9
theorem d_Ref_burstOf_48 : decode (jm_cod M_Ref_burstOf) 48 = .ok (.iaload, 1) := dt_Ref_burstOf_c1 10
theorem d_Ref_burstOf_49 : decode (jm_cod M_Ref_burstOf) 49 = .ok (.i2l, 1) := dt_Ref_burstOf_c1 11
theorem d_Ref_burstOf_50 : decode (jm_cod M_Ref_burstOf) 50 = .ok (.bipush 28, 2) := dt_Ref_burstOf_c1 12
theorem d_Ref_burstOf_52 : decode (jm_cod M_Ref_burstOf) 52 = .ok (.lshl, 1) := dt_Ref_burstOf_c1 13
theorem d_Ref_burstOf_53 : decode (jm_cod M_Ref_burstOf) 53 = .ok (.ladd, 1) := dt_Ref_burstOf_c1 14
theorem d_Ref_burstOf_54 : decode (jm_cod M_Ref_burstOf) 54 = .ok (.aload_n 0, 1) := dt_Ref_burstOf_c1 15
theorem d_Ref_burstOf_55 : decode (jm_cod M_Ref_burstOf) 55 = .ok (.getfield 51, 3) := dt_Ref_burstOf_c1 16
theorem d_Ref_burstOf_58 : decode (jm_cod M_Ref_burstOf) 58 = .ok (.iload_n 1, 1) := dt_Ref_burstOf_c1 17
theorem d_Ref_burstOf_59 : decode (jm_cod M_Ref_burstOf) 59 = .ok (.baload, 1) := dt_Ref_burstOf_c1 18
theorem d_Ref_burstOf_60 : decode (jm_cod M_Ref_burstOf) 60 = .ok (.ifCond .eq 9, 3) := dt_Ref_burstOf_c1 19
theorem d_Ref_burstOf_63 : decode (jm_cod M_Ref_burstOf) 63 = .ok (.ldc2_w 342, 3) := dt_Ref_burstOf_c1 20
theorem d_Ref_burstOf_66 : decode (jm_cod M_Ref_burstOf) 66 = .ok (.goto 4, 3) := dt_Ref_burstOf_c1 21
theorem d_Ref_burstOf_69 : decode (jm_cod M_Ref_burstOf) 69 = .ok (.lconst 0, 1) := dt_Ref_burstOf_c1 22
theorem d_Ref_burstOf_70 : decode (jm_cod M_Ref_burstOf) 70 = .ok (.ladd, 1) := dt_Ref_burstOf_c1 23
def tab_Ref_burstOf_c2 : List (Nat × Instr × Nat) := [(71, .aload_n 0, 1), (72, .getfield 57, 3), (75, .iload_n 1, 1), (76, .iaload, 1), (77, .i2l, 1), (78, .bipush 31, 2), (80, .lshl, 1), (81, .ladd, 1), (82, .lreturn, 1)]
theorem dt_Ref_burstOf_c2 (i : Nat) : decode (jm_cod M_Ref_burstOf) (tab_Ref_burstOf_c2.getD i (71, .aload_n 0, 1)).1 = .ok ((tab_Ref_burstOf_c2.getD i (71, .aload_n 0, 1)).2.1, (tab_Ref_burstOf_c2.getD i (71, .aload_n 0, 1)).2.2) := j_tab (by decide +kernel) i
theorem d_Ref_burstOf_71 : decode (jm_cod M_Ref_burstOf) 71 = .ok (.aload_n 0, 1) := dt_Ref_burstOf_c2 0
theorem d_Ref_burstOf_72 : decode (jm_cod M_Ref_burstOf) 72 = .ok (.getfield 57, 3) := dt_Ref_burstOf_c2 1
theorem d_Ref_burstOf_75 : decode (jm_cod M_Ref_burstOf) 75 = .ok (.iload_n 1, 1) := dt_Ref_burstOf_c2 2
theorem d_Ref_burstOf_76 : decode (jm_cod M_Ref_burstOf) 76 = .ok (.iaload, 1) := dt_Ref_burstOf_c2 3
theorem d_Ref_burstOf_77 : decode (jm_cod M_Ref_burstOf) 77 = .ok (.i2l, 1) := dt_Ref_burstOf_c2 4
theorem d_Ref_burstOf_78 : decode (jm_cod M_Ref_burstOf) 78 = .ok (.bipush 31, 2) := dt_Ref_burstOf_c2 5
theorem d_Ref_burstOf_80 : decode (jm_cod M_Ref_burstOf) 80 = .ok (.lshl, 1) := dt_Ref_burstOf_c2 6
theorem d_Ref_burstOf_81 : decode (jm_cod M_Ref_burstOf) 81 = .ok (.ladd, 1) := dt_Ref_burstOf_c2 7
theorem d_Ref_burstOf_82 : decode (jm_cod M_Ref_burstOf) 82 = .ok (.lreturn, 1) := dt_Ref_burstOf_c2 8
def tab_Ref_showData_c0 : List (Nat × Instr × Nat) := [(0, .iconst 5, 1), (1, .iload_n 1, 1), (2, .imul, 1), (3, .iconst 1, 1), (4, .iadd, 1), (5, .istore_n 2, 1), (6, .aload_n 0, 1), (7, .iload_n 1, 1), (8, .invokevirtual 363, 3), (11, .istore_n 3, 1), (12, .iload_n 3, 1), (13, .iconst (-1), 1), (14, .if_icmp .eq 26, 3), (17, .aload_n 0, 1), (18, .getfield 73, 3), (21, .iload_n 3, 1), (22, .iaload, 1), (23, .iconst (-1), 1), (24, .if_icmp .ne 12, 3), (27, .aload_n 0, 1), (28, .getfield 19, 3), (31, .iload_n 1, 1), (32, .baload, 1), (33, .ifCond .eq 7, 3)]
theorem dt_Ref_showData_c0 (i : Nat) : decode (jm_cod M_Ref_showData) (tab_Ref_showData_c0.getD i (0, .iconst 5, 1)).1 = .ok ((tab_Ref_showData_c0.getD i (0, .iconst 5, 1)).2.1, (tab_Ref_showData_c0.getD i (0, .iconst 5, 1)).2.2) := j_tab (by decide +kernel) i
theorem d_Ref_showData_0 : decode (jm_cod M_Ref_showData) 0 = .ok (.iconst 5, 1) := dt_Ref_showData_c0 0
theorem d_Ref_showData_1 : decode (jm_cod M_Ref_showData) 1 = .ok (.iload_n 1, 1) := dt_Ref_showData_c0 1
theorem d_Ref_showData_2 : decode (jm_cod M_Ref_showData) 2 = .ok (.imul, 1) := dt_Ref_showData_c0 2
theorem d_Ref_showData_3 : decode (jm_cod M_Ref_showData) 3 = .ok (.iconst 1, 1) := dt_Ref_showData_c0 3
theorem d_Ref_showData_4 : decode (jm_cod M_Ref_showData) 4 = .ok (.iadd, 1) := dt_Ref_showData_c0 4
theorem d_Ref_showData_5 : decode (jm_cod M_Ref_showData) 5 = .ok (.istore_n 2, 1) := dt_Ref_showData_c0 5
theorem d_Ref_showData_6 : decode (jm_cod M_Ref_showData) 6 = .ok (.aload_n 0, 1) := dt_Ref_showData_c0 6
theorem d_Ref_showData_7 : decode (jm_cod M_Ref_showData) 7 = .ok (.iload_n 1, 1) := dt_Ref_showData_c0 7
theorem d_Ref_showData_8 : decode (jm_cod M_Ref_showData) 8 = .ok (.invokevirtual 363, 3) := dt_Ref_showData_c0 8
theorem d_Ref_showData_11 : decode (jm_cod M_Ref_showData) 11 = .ok (.istore_n 3, 1) := dt_Ref_showData_c0 9
theorem d_Ref_showData_12 : decode (jm_cod M_Ref_showData) 12 = .ok (.iload_n 3, 1) := dt_Ref_showData_c0 10
theorem d_Ref_showData_13 : decode (jm_cod M_Ref_showData) 13 = .ok (.iconst (-1), 1) := dt_Ref_showData_c0 11
theorem d_Ref_showData_14 : decode (jm_cod M_Ref_showData) 14 = .ok (.if_icmp .eq 26, 3) := dt_Ref_showData_c0 12
theorem d_Ref_showData_17 : decode (jm_cod M_Ref_showData) 17 = .ok (.aload_n 0, 1) := dt_Ref_showData_c0 13
theorem d_Ref_showData_18 : decode (jm_cod M_Ref_showData) 18 = .ok (.getfield 73, 3) := dt_Ref_showData_c0 14
theorem d_Ref_showData_21 : decode (jm_cod M_Ref_showData) 21 = .ok (.iload_n 3, 1) := dt_Ref_showData_c0 15
theorem d_Ref_showData_22 : decode (jm_cod M_Ref_showData) 22 = .ok (.iaload, 1) := dt_Ref_showData_c0 16
theorem d_Ref_showData_23 : decode (jm_cod M_Ref_showData) 23 = .ok (.iconst (-1), 1) := dt_Ref_showData_c0 17
theorem d_Ref_showData_24 : decode (jm_cod M_Ref_showData) 24 = .ok (.if_icmp .ne 12, 3) := dt_Ref_showData_c0 18
theorem d_Ref_showData_27 : decode (jm_cod M_Ref_showData) 27 = .ok (.aload_n 0, 1) := dt_Ref_showData_c0 19
theorem d_Ref_showData_28 : decode (jm_cod M_Ref_showData) 28 = .ok (.getfield 19, 3) := dt_Ref_showData_c0 20
theorem d_Ref_showData_31 : decode (jm_cod M_Ref_showData) 31 = .ok (.iload_n 1, 1) := dt_Ref_showData_c0 21
theorem d_Ref_showData_32 : decode (jm_cod M_Ref_showData) 32 = .ok (.baload, 1) := dt_Ref_showData_c0 22
theorem d_Ref_showData_33 : decode (jm_cod M_Ref_showData) 33 = .ok (.ifCond .eq 7, 3) := dt_Ref_showData_c0 23
def tab_Ref_showData_c1 : List (Nat × Instr × Nat) := [(36, .iconst 1, 1), (37, .goto 4, 3), (40, .iconst 0, 1), (41, .istore 4, 2), (43, .aload_n 0, 1), (44, .getfield 100, 3), (47, .iload_n 2, 1), (48, .baload, 1), (49, .ifCond .ne 24, 3), (52, .iload 4, 2), (54, .ifCond .eq 23, 3), (57, .aload_n 0, 1), (58, .getfield 13, 3), (61, .iload_n 2, 1), (62, .iaload, 1), (63, .aload_n 0, 1), (64, .getfield 348, 3), (67, .invokestatic 351, 3), (70, .ifCond .eq 7, 3), (73, .iconst 1, 1), (74, .goto 4, 3), (77, .iconst 0, 1), (78, .istore 5, 2), (80, .iload 5, 2)]
theorem dt_Ref_showData_c1 (i : Nat) : decode (jm_cod M_Ref_showData) (tab_Ref_showData_c1.getD i (36, .iconst 1, 1)).1 = .ok ((tab_Ref_showData_c1.getD i (36, .iconst 1, 1)).2.1, (tab_Ref_showData_c1.getD i (36, .iconst 1, 1)).2.2) := j_tab (by decide +kernel) i
theorem d_Ref_showData_36 : decode (jm_cod M_Ref_showData) 36 = .ok (.iconst 1, 1) := dt_Ref_showData_c1 0
theorem d_Ref_showData_37 : decode (jm_cod M_Ref_showData) 37 = .ok (.goto 4, 3) := dt_Ref_showData_c1 1
theorem d_Ref_showData_40 : decode (jm_cod M_Ref_showData) 40 = .ok (.iconst 0, 1) := dt_Ref_showData_c1 2
theorem d_Ref_showData_41 : decode (jm_cod M_Ref_showData) 41 = .ok (.istore 4, 2) := dt_Ref_showData_c1 3
theorem d_Ref_showData_43 : decode (jm_cod M_Ref_showData) 43 = .ok (.aload_n 0, 1) := dt_Ref_showData_c1 4
theorem d_Ref_showData_44 : decode (jm_cod M_Ref_showData) 44 = .ok (.getfield 100, 3) := dt_Ref_showData_c1 5
theorem d_Ref_showData_47 : decode (jm_cod M_Ref_showData) 47 = .ok (.iload_n 2, 1) := dt_Ref_showData_c1 6
theorem d_Ref_showData_48 : decode (jm_cod M_Ref_showData) 48 = .ok (.baload, 1) := dt_Ref_showData_c1 7
theorem d_Ref_showData_49 : decode (jm_cod M_Ref_showData) 49 = .ok (.ifCond .ne 24, 3) := dt_Ref_showData_c1 8
theorem d_Ref_showData_52 : decode (jm_cod M_Ref_showData) 52 = .ok (.iload 4, 2) := dt_Ref_showData_c1 9
theorem d_Ref_showData_54 : decode (jm_cod M_Ref_showData) 54 = .ok (.ifCond .eq 23, 3) := dt_Ref_showData_c1 10
theorem d_Ref_showData_57 : decode (jm_cod M_Ref_showData) 57 = .ok (.aload_n 0, 1) := dt_Ref_showData_c1 11
theorem d_Ref_showData_58 : decode (jm_cod M_Ref_showData) 58 = .ok (.getfield 13, 3) := dt_Ref_showData_c1 12
theorem d_Ref_showData_61 : decode (jm_cod M_Ref_showData) 61 = .ok (.iload_n 2, 1) := dt_Ref_showData_c1 13
theorem d_Ref_showData_62 : decode (jm_cod M_Ref_showData) 62 = .ok (.iaload, 1) := dt_Ref_showData_c1 14
theorem d_Ref_showData_63 : decode (jm_cod M_Ref_showData) 63 = .ok (.aload_n 0, 1) := dt_Ref_showData_c1 15
theorem d_Ref_showData_64 : decode (jm_cod M_Ref_showData) 64 = .ok (.getfield 348, 3) := dt_Ref_showData_c1 16
theorem d_Ref_showData_67 : decode (jm_cod M_Ref_showData) 67 = .ok (.invokestatic 351, 3) := dt_Ref_showData_c1 17
theorem d_Ref_showData_70 : decode (jm_cod M_Ref_showData) 70 = .ok (.ifCond .eq 7, 3) := dt_Ref_showData_c1 18
theorem d_Ref_showData_73 : decode (jm_cod M_Ref_showData) 73 = .ok (.iconst 1, 1) := dt_Ref_showData_c1 19
theorem d_Ref_showData_74 : decode (jm_cod M_Ref_showData) 74 = .ok (.goto 4, 3) := dt_Ref_showData_c1 20
theorem d_Ref_showData_77 : decode (jm_cod M_Ref_showData) 77 = .ok (.iconst 0, 1) := dt_Ref_showData_c1 21
theorem d_Ref_showData_78 : decode (jm_cod M_Ref_showData) 78 = .ok (.istore 5, 2) := dt_Ref_showData_c1 22
theorem d_Ref_showData_80 : decode (jm_cod M_Ref_showData) 80 = .ok (.iload 5, 2) := dt_Ref_showData_c1 23
def tab_Ref_showData_c2 : List (Nat × Instr × Nat) := [(82, .ifCond .ne 12, 3), (85, .aload_n 0, 1), (86, .iload_n 2, 1), (87, .iconst 0, 1), (88, .lconst 0, 1), (89, .iconst 0, 1), (90, .invokevirtual 359, 3), (93, .return_, 1), (94, .aload_n 0, 1), (95, .iload_n 3, 1), (96, .invokevirtual 355, 3), (99, .lstore 6, 2), (101, .lload 6, 2), (103, .aload_n 0, 1), (104, .getfield 79, 3), (107, .iload_n 3, 1), (108, .iaload, 1), (109, .invokestatic 366, 3), (112, .lload 6, 2), (114, .invokestatic 318, 3), (117, .invokestatic 370, 3), (120, .istore 8, 2), (122, .aload_n 0, 1), (123, .getfield 66, 3)]
theorem dt_Ref_showData_c2 (i : Nat) : decode (jm_cod M_Ref_showData) (tab_Ref_showData_c2.getD i (82, .ifCond .ne 12, 3)).1 = .ok ((tab_Ref_showData_c2.getD i (82, .ifCond .ne 12, 3)).2.1, (tab_Ref_showData_c2.getD i (82, .ifCond .ne 12, 3)).2.2) := j_tab (by decide +kernel) i
theorem d_Ref_showData_82 : decode (jm_cod M_Ref_showData) 82 = .ok (.ifCond .ne 12, 3) := dt_Ref_showData_c2 0
theorem d_Ref_showData_85 : decode (jm_cod M_Ref_showData) 85 = .ok (.aload_n 0, 1) := dt_Ref_showData_c2 1
theorem d_Ref_showData_86 : decode (jm_cod M_Ref_showData) 86 = .ok (.iload_n 2, 1) := dt_Ref_showData_c2 2
theorem d_Ref_showData_87 : decode (jm_cod M_Ref_showData) 87 = .ok (.iconst 0, 1) := dt_Ref_showData_c2 3
theorem d_Ref_showData_88 : decode (jm_cod M_Ref_showData) 88 = .ok (.lconst 0, 1) := dt_Ref_showData_c2 4
theorem d_Ref_showData_89 : decode (jm_cod M_Ref_showData) 89 = .ok (.iconst 0, 1) := dt_Ref_showData_c2 5
theorem d_Ref_showData_90 : decode (jm_cod M_Ref_showData) 90 = .ok (.invokevirtual 359, 3) := dt_Ref_showData_c2 6
theorem d_Ref_showData_93 : decode (jm_cod M_Ref_showData) 93 = .ok (.return_, 1) := dt_Ref_showData_c2 7
theorem d_Ref_showData_94 : decode (jm_cod M_Ref_showData) 94 = .ok (.aload_n 0, 1) := dt_Ref_showData_c2 8
theorem d_Ref_showData_95 : decode (jm_cod M_Ref_showData) 95 = .ok (.iload_n 3, 1) := dt_Ref_showData_c2 9
theorem d_Ref_showData_96 : decode (jm_cod M_Ref_showData) 96 = .ok (.invokevirtual 355, 3) := dt_Ref_showData_c2 10
theorem d_Ref_showData_99 : decode (jm_cod M_Ref_showData) 99 = .ok (.lstore 6, 2) := dt_Ref_showData_c2 11
theorem d_Ref_showData_101 : decode (jm_cod M_Ref_showData) 101 = .ok (.lload 6, 2) := dt_Ref_showData_c2 12
theorem d_Ref_showData_103 : decode (jm_cod M_Ref_showData) 103 = .ok (.aload_n 0, 1) := dt_Ref_showData_c2 13
theorem d_Ref_showData_104 : decode (jm_cod M_Ref_showData) 104 = .ok (.getfield 79, 3) := dt_Ref_showData_c2 14
theorem d_Ref_showData_107 : decode (jm_cod M_Ref_showData) 107 = .ok (.iload_n 3, 1) := dt_Ref_showData_c2 15
theorem d_Ref_showData_108 : decode (jm_cod M_Ref_showData) 108 = .ok (.iaload, 1) := dt_Ref_showData_c2 16
theorem d_Ref_showData_109 : decode (jm_cod M_Ref_showData) 109 = .ok (.invokestatic 366, 3) := dt_Ref_showData_c2 17
theorem d_Ref_showData_112 : decode (jm_cod M_Ref_showData) 112 = .ok (.lload 6, 2) := dt_Ref_showData_c2 18
theorem d_Ref_showData_114 : decode (jm_cod M_Ref_showData) 114 = .ok (.invokestatic 318, 3) := dt_Ref_showData_c2 19
theorem d_Ref_showData_117 : decode (jm_cod M_Ref_showData) 117 = .ok (.invokestatic 370, 3) := dt_Ref_showData_c2 20
theorem d_Ref_showData_120 : decode (jm_cod M_Ref_showData) 120 = .ok (.istore 8, 2) := dt_Ref_showData_c2 21
theorem d_Ref_showData_122 : decode (jm_cod M_Ref_showData) 122 = .ok (.aload_n 0, 1) := dt_Ref_showData_c2 22
theorem d_Ref_showData_123 : decode (jm_cod M_Ref_showData) 123 = .ok (.getfield 66, 3) := dt_Ref_showData_c2 23
def tab_Ref_showData_c3 : List (Nat × Instr × Nat) := [(126, .iload_n 3, 1), (127, .laload, 1), (128, .ldc2_w 373, 3), (131, .lmul, 1), (132, .ldc2_w 375, 3), (135, .ladd, 1), (136, .lstore 9, 2), (138, .iload 8, 2), (140, .istore 11, 2), (142, .iconst 0, 1), (143, .istore 12, 2), (145, .iload 12, 2), (147, .bipush 8, 2), (149, .if_icmp .ge 50, 3), (152, .aload_n 0, 1), (153, .getfield 54, 3), (156, .iload_n 3, 1), (157, .baload, 1), (158, .ifCond .eq 41, 3), (161, .iload 11, 2), (163, .lload 9, 2), (165, .bipush 56, 2), (167, .iload 12, 2), (169, .iadd, 1)]
theorem dt_Ref_showData_c3 (i : Nat) : decode (jm_cod M_Ref_showData) (tab_Ref_showData_c3.getD i (126, .iload_n 3, 1)).1 = .ok ((tab_Ref_showData_c3.getD i (126, .iload_n 3, 1)).2.1, (tab_Ref_showData_c3.getD i (126, .iload_n 3, 1)).2.2) := j_tab (by decide +kernel) i
theorem d_Ref_showData_126 : decode (jm_cod M_Ref_showData) 126 = .ok (.iload_n 3, 1) := dt_Ref_showData_c3 0
theorem d_Ref_showData_127 : decode (jm_cod M_Ref_showData) 127 = .ok (.laload, 1) := dt_Ref_showData_c3 1
theorem d_Ref_showData_128 : decode (jm_cod M_Ref_showData) 128 = .ok (.ldc2_w 373, 3) := dt_Ref_showData_c3 2
theorem d_Ref_showData_131 : decode (jm_cod M_Ref_showData) 131 = .ok (.lmul, 1) := dt_Ref_showData_c3 3
theorem d_Ref_showData_132 : decode (jm_cod M_Ref_showData) 132 = .ok (.ldc2_w 375, 3) := dt_Ref_showData_c3 4
theorem d_Ref_showData_135 : decode (jm_cod M_Ref_showData) 135 = .ok (.ladd, 1) := dt_Ref_showData_c3 5
theorem d_Ref_showData_136 : decode (jm_cod M_Ref_showData) 136 = .ok (.lstore 9, 2) := dt_Ref_showData_c3 6
theorem d_Ref_showData_138 : decode (jm_cod M_Ref_showData) 138 = .ok (.iload 8, 2) := dt_Ref_showData_c3 7
theorem d_Ref_showData_140 : decode (jm_cod M_Ref_showData) 140 = .ok (.istore 11, 2) := dt_Ref_showData_c3 8
theorem d_Ref_showData_142 : decode (jm_cod M_Ref_showData) 142 = .ok (.iconst 0, 1) := dt_Ref_showData_c3 9
theorem d_Ref_showData_143 : decode (jm_cod M_Ref_showData) 143 = .ok (.istore 12, 2) := dt_Ref_showData_c3 10
theorem d_Ref_showData_145 : decode (jm_cod M_Ref_showData) 145 = .ok (.iload 12, 2) := dt_Ref_showData_c3 11
theorem d_Ref_showData_147 : decode (jm_cod M_Ref_showData) 147 = .ok (.bipush 8, 2) := dt_Ref_showData_c3 12
theorem d_Ref_showData_149 : decode (jm_cod M_Ref_showData) 149 = .ok (.if_icmp .ge 50, 3) := dt_Ref_showData_c3 13
theorem d_Ref_showData_152 : decode (jm_cod M_Ref_showData) 152 = .ok (.aload_n 0, 1) := dt_Ref_showData_c3 14
theorem d_Ref_showData_153 : decode (jm_cod M_Ref_showData) 153 = .ok (.getfield 54, 3) := dt_Ref_showData_c3 15
theorem d_Ref_showData_156 : decode (jm_cod M_Ref_showData) 156 = .ok (.iload_n 3, 1) := dt_Ref_showData_c3 16
theorem d_Ref_showData_157 : decode (jm_cod M_Ref_showData) 157 = .ok (.baload, 1) := dt_Ref_showData_c3 17
theorem d_Ref_showData_158 : decode (jm_cod M_Ref_showData) 158 = .ok (.ifCond .eq 41, 3) := dt_Ref_showData_c3 18
theorem d_Ref_showData_161 : decode (jm_cod M_Ref_showData) 161 = .ok (.iload 11, 2) := dt_Ref_showData_c3 19
theorem d_Ref_showData_163 : decode (jm_cod M_Ref_showData) 163 = .ok (.lload 9, 2) := dt_Ref_showData_c3 20
theorem d_Ref_showData_165 : decode (jm_cod M_Ref_showData) 165 = .ok (.bipush 56, 2) := dt_Ref_showData_c3 21
theorem d_Ref_showData_167 : decode (jm_cod M_Ref_showData) 167 = .ok (.iload 12, 2) := dt_Ref_showData_c3 22
theorem d_Ref_showData_169 : decode (jm_cod M_Ref_showData) 169 = .ok (.iadd, 1) := dt_Ref_showData_c3 23
def tab_Ref_showData_c4 : List (Nat × Instr × Nat) := [(170, .lshr, 1), (171, .lconst 1, 1), (172, .land, 1), (173, .lconst 1, 1), (174, .lcmp, 1), (175, .ifCond .ne 9, 3), (178, .sipush 255, 3), (181, .goto 9, 3), (184, .iconst 1, 1), (185, .iload 12, 2), (187, .ishl, 1), (188, .iconst (-1), 1), (189, .ixor, 1), (190, .iand, 1), (191, .istore 11, 2), (193, .iinc 12 1, 3), (196, .goto (-51), 3), (199, .aload_n 0, 1), (200, .iload_n 2, 1), (201, .iconst 1, 1), (202, .lload 9, 2), (204, .iload 8, 2), (206, .invokestatic 377, 3), (209, .land, 1)]
theorem dt_Ref_showData_c4 (i : Nat) : decode (jm_cod M_Ref_showData) (tab_Ref_showData_c4.getD i (170, .lshr, 1)).1 = .ok ((tab_Ref_showData_c4.getD i (170, .lshr, 1)).2.1, (tab_Ref_showData_c4.getD i (170, .lshr, 1)).2.2) := j_tab (by decide +kernel) i
theorem d_Ref_showData_170 : decode (jm_cod M_Ref_showData) 170 = .ok (.lshr, 1) := dt_Ref_showData_c4 0
theorem d_Ref_showData_171 : decode (jm_cod M_Ref_showData) 171 = .ok (.lconst 1, 1) := dt_Ref_showData_c4 1
theorem d_Ref_showData_172 : decode (jm_cod M_Ref_showData) 172 = .ok (.land, 1) := dt_Ref_showData_c4 2
theorem d_Ref_showData_173 : decode (jm_cod M_Ref_showData) 173 = .ok (.lconst 1, 1) := dt_Ref_showData_c4 3
theorem d_Ref_showData_174 : decode (jm_cod M_Ref_showData) 174 = .ok (.lcmp, 1) := dt_Ref_showData_c4 4
theorem d_Ref_showData_175 : decode (jm_cod M_Ref_showData) 175 = .ok (.ifCond .ne 9, 3) := dt_Ref_showData_c4 5
theorem d_Ref_showData_178 : decode (jm_cod M_Ref_showData) 178 = .ok (.sipush 255, 3) := dt_Ref_showData_c4 6
theorem d_Ref_showData_181 : decode (jm_cod M_Ref_showData) 181 = .ok (.goto 9, 3) := dt_Ref_showData_c4 7
theorem d_Ref_showData_184 : decode (jm_cod M_Ref_showData) 184 = .ok (.iconst 1, 1) := dt_Ref_showData_c4 8
theorem d_Ref_showData_185 : decode (jm_cod M_Ref_showData) 185 = .ok (.iload 12, 2) := dt_Ref_showData_c4 9
theorem d_Ref_showData_187 : decode (jm_cod M_Ref_showData) 187 = .ok (.ishl, 1) := dt_Ref_showData_c4 10
theorem d_Ref_showData_188 : decode (jm_cod M_Ref_showData) 188 = .ok (.iconst (-1), 1) := dt_Ref_showData_c4 11
theorem d_Ref_showData_189 : decode (jm_cod M_Ref_showData) 189 = .ok (.ixor, 1) := dt_Ref_showData_c4 12
theorem d_Ref_showData_190 : decode (jm_cod M_Ref_showData) 190 = .ok (.iand, 1) := dt_Ref_showData_c4 13
theorem d_Ref_showData_191 : decode (jm_cod M_Ref_showData) 191 = .ok (.istore 11, 2) := dt_Ref_showData_c4 14
theorem d_Ref_showData_193 : decode (jm_cod M_Ref_showData) 193 = .ok (.iinc 12 1, 3) := dt_Ref_showData_c4 15
theorem d_Ref_showData_196 : decode (jm_cod M_Ref_showData) 196 = .ok (.goto (-51), 3) := dt_Ref_showData_c4 16
theorem d_Ref_showData_199 : decode (jm_cod M_Ref_showData) 199 = .ok (.aload_n 0, 1) := dt_Ref_showData_c4 17
theorem d_Ref_showData_200 : decode (jm_cod M_Ref_showData) 200 = .ok (.iload_n 2, 1) := dt_Ref_showData_c4 18
theorem d_Ref_showData_201 : decode (jm_cod M_Ref_showData) 201 = .ok (.iconst 1, 1) := dt_Ref_showData_c4 19
theorem d_Ref_showData_202 : decode (jm_cod M_Ref_showData) 202 = .ok (.lload 9, 2) := dt_Ref_showData_c4 20
theorem d_Ref_showData_204 : decode (jm_cod M_Ref_showData) 204 = .ok (.iload 8, 2) := dt_Ref_showData_c4 21
theorem d_Ref_showData_206 : decode (jm_cod M_Ref_showData) 206 = .ok (.invokestatic 377, 3) := dt_Ref_showData_c4 22
theorem d_Ref_showData_209 : decode (jm_cod M_Ref_showData) 209 = .ok (.land, 1) := dt_Ref_showData_c4 23
def tab_Ref_showData_c5 : List (Nat × Instr × Nat) := [(210, .iload 11, 2), (212, .aload_n 0, 1), (213, .getfield 79, 3), (216, .iload_n 3, 1), (217, .iaload, 1), (218, .aload_n 0, 1), (219, .getfield 39, 3), (222, .iload_n 3, 1), (223, .iaload, 1), (224, .iconst 1, 1), (225, .isub, 1), (226, .if_icmp .ne 9, 3), (229, .sipush 256, 3), (232, .goto 4, 3), (235, .iconst 0, 1), (236, .ior, 1), (237, .invokevirtual 359, 3), (240, .return_, 1)]
theorem dt_Ref_showData_c5 (i : Nat) : decode (jm_cod M_Ref_showData) (tab_Ref_showData_c5.getD i (210, .iload 11, 2)).1 = .ok ((tab_Ref_showData_c5.getD i (210, .iload 11, 2)).2.1, (tab_Ref_showData_c5.getD i (210, .iload 11, 2)).2.2) := j_tab (by decide +kernel) i
theorem d_Ref_showData_210 : decode (jm_cod M_Ref_showData) 210 = .ok (.iload 11, 2) := dt_Ref_showData_c5 0
theorem d_Ref_showData_212 : decode (jm_cod M_Ref_showData) 212 = .ok (.aload_n 0, 1) := dt_Ref_showData_c5 1
theorem d_Ref_showData_213 : decode (jm_cod M_Ref_showData) 213 = .ok (.getfield 79, 3) := dt_Ref_showData_c5 2
theorem d_Ref_showData_216 : decode (jm_cod M_Ref_showData) 216 = .ok (.iload_n 3, 1) := dt_Ref_showData_c5 3
theorem d_Ref_showData_217 : decode (jm_cod M_Ref_showData) 217 = .ok (.iaload, 1) := dt_Ref_showData_c5 4
theorem d_Ref_showData_218 : decode (jm_cod M_Ref_showData) 218 = .ok (.aload_n 0, 1) := dt_Ref_showData_c5 5
theorem d_Ref_showData_219 : decode (jm_cod M_Ref_showData) 219 = .ok (.getfield 39, 3) := dt_Ref_showData_c5 6
theorem d_Ref_showData_222 : decode (jm_cod M_Ref_showData) 222 = .ok (.iload_n 3, 1) := dt_Ref_showData_c5 7
theorem d_Ref_showData_223 : decode (jm_cod M_Ref_showData) 223 = .ok (.iaload, 1) := dt_Ref_showData_c5 8
theorem d_Ref_showData_224 : decode (jm_cod M_Ref_showData) 224 = .ok (.iconst 1, 1) := dt_Ref_showData_c5 9
theorem d_Ref_showData_225 : decode (jm_cod M_Ref_showData) 225 = .ok (.isub, 1) := dt_Ref_showData_c5 10
theorem d_Ref_showData_226 : decode (jm_cod M_Ref_showData) 226 = .ok (.if_icmp .ne 9, 3) := dt_Ref_showData_c5 11
theorem d_Ref_showData_229 : decode (jm_cod M_Ref_showData) 229 = .ok (.sipush 256, 3) := dt_Ref_showData_c5 12
theorem d_Ref_showData_232 : decode (jm_cod M_Ref_showData) 232 = .ok (.goto 4, 3) := dt_Ref_showData_c5 13
theorem d_Ref_showData_235 : decode (jm_cod M_Ref_showData) 235 = .ok (.iconst 0, 1) := dt_Ref_showData_c5 14
theorem d_Ref_showData_236 : decode (jm_cod M_Ref_showData) 236 = .ok (.ior, 1) := dt_Ref_showData_c5 15
theorem d_Ref_showData_237 : decode (jm_cod M_Ref_showData) 237 = .ok (.invokevirtual 359, 3) := dt_Ref_showData_c5 16
theorem d_Ref_showData_240 : decode (jm_cod M_Ref_showData) 240 = .ok (.return_, 1) := dt_Ref_showData_c5 17
def tab_Ref_unfinished_c0 : List (Nat × Instr × Nat) := [(0, .iconst 0, 1), (1, .istore_n 2, 1), (2, .iload_n 2, 1), (3, .aload_n 0, 1), (4, .getfield 337, 3), (7, .if_icmp .ge 45, 3), (10, .aload_n 0, 1), (11, .getfield 36, 3), (14, .iload_n 2, 1), (15, .iaload, 1), (16, .iload_n 1, 1), (17, .if_icmp .ne 29, 3), (20, .aload_n 0, 1), (21, .getfield 48, 3), (24, .iload_n 2, 1), (25, .baload, 1), (26, .ifCond .eq 20, 3), (29, .aload_n 0, 1), (30, .getfield 79, 3), (33, .iload_n 2, 1), (34, .iaload, 1), (35, .aload_n 0, 1), (36, .getfield 39, 3), (39, .iload_n 2, 1)]
theorem dt_Ref_unfinished_c0 (i : Nat) : decode (jm_cod M_Ref_unfinished) (tab_Ref_unfinished_c0.getD i (0, .iconst 0, 1)).1 = .ok ((tab_Ref_unfinished_c0.getD i (0, .iconst 0, 1)).2.1, (tab_Ref_unfinished_c0.getD i (0, .iconst 0, 1)).2.2) := j_tab (by decide +kernel) i
theorem d_Ref_unfinished_0 : decode (jm_cod M_Ref_unfinished) 0 = .ok (.iconst 0, 1) := dt_Ref_unfinished_c0 0
theorem d_Ref_unfinished_1 : decode (jm_cod M_Ref_unfinished) 1 = .ok (.istore_n 2, 1) := dt_Ref_unfinished_c0 1
theorem d_Ref_unfinished_2 : decode (jm_cod M_Ref_unfinished) 2 = .ok (.iload_n 2, 1) := dt_Ref_unfinished_c0 2
theorem d_Ref_unfinished_3 : decode (jm_cod M_Ref_unfinished) 3 = .ok (.aload_n 0, 1) := dt_Ref_unfinished_c0 3
theorem d_Ref_unfinished_4 : decode (jm_cod M_Ref_unfinished) 4 = .ok (.getfield 337, 3) := dt_Ref_unfinished_c0 4
theorem d_Ref_unfinished_7 : decode (jm_cod M_Ref_unfinished) 7 = .ok (.if_icmp .ge 45, 3) := dt_Ref_unfinished_c0 5
theorem d_Ref_unfinished_10 : decode (jm_cod M_Ref_unfinished) 10 = .ok (.aload_n 0, 1) := dt_Ref_unfinished_c0 6
theorem d_Ref_unfinished_11 : decode (jm_cod M_Ref_unfinished) 11 = .ok (.getfield 36, 3) := dt_Ref_unfinished_c0 7
theorem d_Ref_unfinished_14 : decode (jm_cod M_Ref_unfinished) 14 = .ok (.iload_n 2, 1) := dt_Ref_unfinished_c0 8
theorem d_Ref_unfinished_15 : decode (jm_cod M_Ref_unfinished) 15 = .ok (.iaload, 1) := dt_Ref_unfinished_c0 9
theorem d_Ref_unfinished_16 : decode (jm_cod M_Ref_unfinished) 16 = .ok (.iload_n 1, 1) := dt_Ref_unfinished_c0 10
theorem d_Ref_unfinished_17 : decode (jm_cod M_Ref_unfinished) 17 = .ok (.if_icmp .ne 29, 3) := dt_Ref_unfinished_c0 11
theorem d_Ref_unfinished_20 : decode (jm_cod M_Ref_unfinished) 20 = .ok (.aload_n 0, 1) := dt_Ref_unfinished_c0 12
theorem d_Ref_unfinished_21 : decode (jm_cod M_Ref_unfinished) 21 = .ok (.getfield 48, 3) := dt_Ref_unfinished_c0 13
theorem d_Ref_unfinished_24 : decode (jm_cod M_Ref_unfinished) 24 = .ok (.iload_n 2, 1) := dt_Ref_unfinished_c0 14
theorem d_Ref_unfinished_25 : decode (jm_cod M_Ref_unfinished) 25 = .ok (.baload, 1) := dt_Ref_unfinished_c0 15
theorem d_Ref_unfinished_26 : decode (jm_cod M_Ref_unfinished) 26 = .ok (.ifCond .eq 20, 3) := dt_Ref_unfinished_c0 16
theorem d_Ref_unfinished_29 : decode (jm_cod M_Ref_unfinished) 29 = .ok (.aload_n 0, 1) := dt_Ref_unfinished_c0 17
theorem d_Ref_unfinished_30 : decode (jm_cod M_Ref_unfinished) 30 = .ok (.getfield 79, 3) := dt_Ref_unfinished_c0 18
theorem d_Ref_unfinished_33 : decode (jm_cod M_Ref_unfinished) 33 = .ok (.iload_n 2, 1) := dt_Ref_unfinished_c0 19
theorem d_Ref_unfinished_34 : decode (jm_cod M_Ref_unfinished) 34 = .ok (.iaload, 1) := dt_Ref_unfinished_c0 20
theorem d_Ref_unfinished_35 : decode (jm_cod M_Ref_unfinished) 35 = .ok (.aload_n 0, 1) := dt_Ref_unfinished_c0 21
theorem d_Ref_unfinished_36 : decode (jm_cod M_Ref_unfinished) 36 = .ok (.getfield 39, 3) := dt_Ref_unfinished_c0 22
theorem d_Ref_unfinished_39 : decode (jm_cod M_Ref_unfinished) 39 = .ok (.iload_n 2, 1) := dt_Ref_unfinished_c0 23
def tab_Ref_unfinished_c1 : List (Nat × Instr × Nat) := [(40, .iaload, 1), (41, .if_icmp .ge 5, 3), (44, .iload_n 2, 1), (45, .ireturn, 1), (46, .iinc 2 1, 3), (49, .goto (-47), 3), (52, .iconst (-1), 1), (53, .ireturn, 1)]
theorem dt_Ref_unfinished_c1 (i : Nat) : decode (jm_cod M_Ref_unfinished) (tab_Ref_unfinished_c1.getD i (40, .iaload, 1)).1 = .ok ((tab_Ref_unfinished_c1.getD i (40, .iaload, 1)).2.1, (tab_Ref_unfinished_c1.getD i (40, .iaload, 1)).2.2) := j_tab (by decide +kernel) i
theorem d_Ref_unfinished_40 : decode (jm_cod M_Ref_unfinished) 40 = .ok (.iaload, 1) := dt_Ref_unfinished_c1 0
theorem d_Ref_unfinished_41 : decode (jm_cod M_Ref_unfinished) 41 = .ok (.if_icmp .ge 5, 3) := dt_Ref_unfinished_c1 1
theorem d_Ref_unfinished_44 : decode (jm_cod M_Ref_unfinished) 44 = .ok (.iload_n 2, 1) := dt_Ref_unfinished_c1 2
theorem d_Ref_unfinished_45 : decode (jm_cod M_Ref_unfinished) 45 = .ok (.ireturn, 1) := dt_Ref_unfinished_c1 3
theorem d_Ref_unfinished_46 : decode (jm_cod M_Ref_unfinished) 46 = .ok (.iinc 2 1, 3) := dt_Ref_unfinished_c1 4
theorem d_Ref_unfinished_49 : decode (jm_cod M_Ref_unfinished) 49 = .ok (.goto (-47), 3) := dt_Ref_unfinished_c1 5
theorem d_Ref_unfinished_52 : decode (jm_cod M_Ref_unfinished) 52 = .ok (.iconst (-1), 1) := dt_Ref_unfinished_c1 6
theorem d_Ref_unfinished_53 : decode (jm_cod M_Ref_unfinished) 53 = .ok (.ireturn, 1) := dt_Ref_unfinished_c1 7
def tab_Ref_beatAt_c0 : List (Nat × Instr × Nat) := [(0, .lload_n 0, 1), (1, .invokestatic 314, 3), (4, .istore_n 3, 1), (5, .lload_n 0, 1), (6, .invokestatic 318, 3), (9, .istore 4, 2), (11, .lload_n 0, 1), (12, .invokestatic 321, 3), (15, .iload 4, 2), (17, .imul, 1), (18, .istore 5, 2), (20, .lload_n 0, 1), (21, .invokestatic 324, 3), (24, .istore 6, 2), (26, .iload_n 3, 1), (27, .iload_n 3, 1), (28, .iload 5, 2), (30, .irem, 1), (31, .isub, 1), (32, .istore 7, 2), (34, .iload 6, 2), (36, .ifCond .eq 13, 3), (39, .iload 6, 2), (41, .iconst 1, 1)]
theorem dt_Ref_beatAt_c0 (i : Nat) : decode (jm_cod M_Ref_beatAt) (tab_Ref_beatAt_c0.getD i (0, .lload_n 0, 1)).1 = .ok ((tab_Ref_beatAt_c0.getD i (0, .lload_n 0, 1)).2.1, (tab_Ref_beatAt_c0.getD i (0, .lload_n 0, 1)).2.2) := j_tab (by decide +kernel) i
theorem d_Ref_beatAt_0 : decode (jm_cod M_Ref_beatAt) 0 = .ok (.lload_n 0, 1) := dt_Ref_beatAt_c0 0
theorem d_Ref_beatAt_1 : decode (jm_cod M_Ref_beatAt) 1 = .ok (.invokestatic 314, 3) := dt_Ref_beatAt_c0 1
theorem d_Ref_beatAt_4 : decode (jm_cod M_Ref_beatAt) 4 = .ok (.istore_n 3, 1) := dt_Ref_beatAt_c0 2
theorem d_Ref_beatAt_5 : decode (jm_cod M_Ref_beatAt) 5 = .ok (.lload_n 0, 1) := dt_Ref_beatAt_c0 3
theorem d_Ref_beatAt_6 : decode (jm_cod M_Ref_beatAt) 6 = .ok (.invokestatic 318, 3) := dt_Ref_beatAt_c0 4
theorem d_Ref_beatAt_9 : decode (jm_cod M_Ref_beatAt) 9 = .ok (.istore 4, 2) := dt_Ref_beatAt_c0 5
theorem d_Ref_beatAt_11 : decode (jm_cod M_Ref_beatAt) 11 = .ok (.lload_n 0, 1) := dt_Ref_beatAt_c0 6
theorem d_Ref_beatAt_12 : decode (jm_cod M_Ref_beatAt) 12 = .ok (.invokestatic 321, 3) := dt_Ref_beatAt_c0 7
theorem d_Ref_beatAt_15 : decode (jm_cod M_Ref_beatAt) 15 = .ok (.iload 4, 2) := dt_Ref_beatAt_c0 8
theorem d_Ref_beatAt_17 : decode (jm_cod M_Ref_beatAt) 17 = .ok (.imul, 1) := dt_Ref_beatAt_c0 9
theorem d_Ref_beatAt_18 : decode (jm_cod M_Ref_beatAt) 18 = .ok (.istore 5, 2) := dt_Ref_beatAt_c0 10
theorem d_Ref_beatAt_20 : decode (jm_cod M_Ref_beatAt) 20 = .ok (.lload_n 0, 1) := dt_Ref_beatAt_c0 11
theorem d_Ref_beatAt_21 : decode (jm_cod M_Ref_beatAt) 21 = .ok (.invokestatic 324, 3) := dt_Ref_beatAt_c0 12
theorem d_Ref_beatAt_24 : decode (jm_cod M_Ref_beatAt) 24 = .ok (.istore 6, 2) := dt_Ref_beatAt_c0 13
theorem d_Ref_beatAt_26 : decode (jm_cod M_Ref_beatAt) 26 = .ok (.iload_n 3, 1) := dt_Ref_beatAt_c0 14
theorem d_Ref_beatAt_27 : decode (jm_cod M_Ref_beatAt) 27 = .ok (.iload_n 3, 1) := dt_Ref_beatAt_c0 15
theorem d_Ref_beatAt_28 : decode (jm_cod M_Ref_beatAt) 28 = .ok (.iload 5, 2) := dt_Ref_beatAt_c0 16
theorem d_Ref_beatAt_30 : decode (jm_cod M_Ref_beatAt) 30 = .ok (.irem, 1) := dt_Ref_beatAt_c0 17
theorem d_Ref_beatAt_31 : decode (jm_cod M_Ref_beatAt) 31 = .ok (.isub, 1) := dt_Ref_beatAt_c0 18
theorem d_Ref_beatAt_32 : decode (jm_cod M_Ref_beatAt) 32 = .ok (.istore 7, 2) := dt_Ref_beatAt_c0 19
theorem d_Ref_beatAt_34 : decode (jm_cod M_Ref_beatAt) 34 = .ok (.iload 6, 2) := dt_Ref_beatAt_c0 20
theorem d_Ref_beatAt_36 : decode (jm_cod M_Ref_beatAt) 36 = .ok (.ifCond .eq 13, 3) := dt_Ref_beatAt_c0 21
theorem d_Ref_beatAt_39 : decode (jm_cod M_Ref_beatAt) 39 = .ok (.iload 6, 2) := dt_Ref_beatAt_c0 22
theorem d_Ref_beatAt_41 : decode (jm_cod M_Ref_beatAt) 41 = .ok (.iconst 1, 1) := dt_Ref_beatAt_c0 23
def tab_Ref_beatAt_c1 : List (Nat × Instr × Nat) := [(42, .if_icmp .ne 11, 3), (45, .iload_n 2, 1), (46, .ifCond .ne 7, 3), (49, .iload_n 3, 1), (50, .goto 38, 3), (53, .iload 6, 2), (55, .iconst 1, 1), (56, .if_icmp .ne 17, 3), (59, .iload_n 3, 1), (60, .iload_n 3, 1), (61, .iload 4, 2), (63, .irem, 1), (64, .isub, 1), (65, .iload_n 2, 1), (66, .iload 4, 2), (68, .imul, 1), (69, .iadd, 1), (70, .goto 18, 3), (73, .iload 7, 2), (75, .iload_n 3, 1), (76, .iload 7, 2), (78, .isub, 1), (79, .iload_n 2, 1), (80, .iload 4, 2)]
theorem dt_Ref_beatAt_c1 (i : Nat) : decode (jm_cod M_Ref_beatAt) (tab_Ref_beatAt_c1.getD i (42, .if_icmp .ne 11, 3)).1 = .ok ((tab_Ref_beatAt_c1.getD i (42, .if_icmp .ne 11, 3)).2.1, (tab_Ref_beatAt_c1.getD i (42, .if_icmp .ne 11, 3)).2.2) := j_tab (by decide +kernel) i
theorem d_Ref_beatAt_42 : decode (jm_cod M_Ref_beatAt) 42 = .ok (.if_icmp .ne 11, 3) := dt_Ref_beatAt_c1 0
theorem d_Ref_beatAt_45 : decode (jm_cod M_Ref_beatAt) 45 = .ok (.iload_n 2, 1) := dt_Ref_beatAt_c1 1
theorem d_Ref_beatAt_46 : decode (jm_cod M_Ref_beatAt) 46 = .ok (.ifCond .ne 7, 3) := dt_Ref_beatAt_c1 2
theorem d_Ref_beatAt_49 : decode (jm_cod M_Ref_beatAt) 49 = .ok (.iload_n 3, 1) := dt_Ref_beatAt_c1 3
theorem d_Ref_beatAt_50 : decode (jm_cod M_Ref_beatAt) 50 = .ok (.goto 38, 3) := dt_Ref_beatAt_c1 4
theorem d_Ref_beatAt_53 : decode (jm_cod M_Ref_beatAt) 53 = .ok (.iload 6, 2) := dt_Ref_beatAt_c1 5
theorem d_Ref_beatAt_55 : decode (jm_cod M_Ref_beatAt) 55 = .ok (.iconst 1, 1) := dt_Ref_beatAt_c1 6
theorem d_Ref_beatAt_56 : decode (jm_cod M_Ref_beatAt) 56 = .ok (.if_icmp .ne 17, 3) := dt_Ref_beatAt_c1 7
theorem d_Ref_beatAt_59 : decode (jm_cod M_Ref_beatAt) 59 = .ok (.iload_n 3, 1) := dt_Ref_beatAt_c1 8
theorem d_Ref_beatAt_60 : decode (jm_cod M_Ref_beatAt) 60 = .ok (.iload_n 3, 1) := dt_Ref_beatAt_c1 9
theorem d_Ref_beatAt_61 : decode (jm_cod M_Ref_beatAt) 61 = .ok (.iload 4, 2) := dt_Ref_beatAt_c1 10
theorem d_Ref_beatAt_63 : decode (jm_cod M_Ref_beatAt) 63 = .ok (.irem, 1) := dt_Ref_beatAt_c1 11
theorem d_Ref_beatAt_64 : decode (jm_cod M_Ref_beatAt) 64 = .ok (.isub, 1) := dt_Ref_beatAt_c1 12
theorem d_Ref_beatAt_65 : decode (jm_cod M_Ref_beatAt) 65 = .ok (.iload_n 2, 1) := dt_Ref_beatAt_c1 13
theorem d_Ref_beatAt_66 : decode (jm_cod M_Ref_beatAt) 66 = .ok (.iload 4, 2) := dt_Ref_beatAt_c1 14
theorem d_Ref_beatAt_68 : decode (jm_cod M_Ref_beatAt) 68 = .ok (.imul, 1) := dt_Ref_beatAt_c1 15
theorem d_Ref_beatAt_69 : decode (jm_cod M_Ref_beatAt) 69 = .ok (.iadd, 1) := dt_Ref_beatAt_c1 16
theorem d_Ref_beatAt_70 : decode (jm_cod M_Ref_beatAt) 70 = .ok (.goto 18, 3) := dt_Ref_beatAt_c1 17
theorem d_Ref_beatAt_73 : decode (jm_cod M_Ref_beatAt) 73 = .ok (.iload 7, 2) := dt_Ref_beatAt_c1 18
theorem d_Ref_beatAt_75 : decode (jm_cod M_Ref_beatAt) 75 = .ok (.iload_n 3, 1) := dt_Ref_beatAt_c1 19
theorem d_Ref_beatAt_76 : decode (jm_cod M_Ref_beatAt) 76 = .ok (.iload 7, 2) := dt_Ref_beatAt_c1 20
theorem d_Ref_beatAt_78 : decode (jm_cod M_Ref_beatAt) 78 = .ok (.isub, 1) := dt_Ref_beatAt_c1 21
theorem d_Ref_beatAt_79 : decode (jm_cod M_Ref_beatAt) 79 = .ok (.iload_n 2, 1) := dt_Ref_beatAt_c1 22
theorem d_Ref_beatAt_80 : decode (jm_cod M_Ref_beatAt) 80 = .ok (.iload 4, 2) := dt_Ref_beatAt_c1 23
def tab_Ref_beatAt_c2 : List (Nat × Instr × Nat) := [(82, .imul, 1), (83, .iadd, 1), (84, .iload 5, 2), (86, .irem, 1), (87, .iadd, 1), (88, .ireturn, 1)]
theorem dt_Ref_beatAt_c2 (i : Nat) : decode (jm_cod M_Ref_beatAt) (tab_Ref_beatAt_c2.getD i (82, .imul, 1)).1 = .ok ((tab_Ref_beatAt_c2.getD i (82, .imul, 1)).2.1, (tab_Ref_beatAt_c2.getD i (82, .imul, 1)).2.2) := j_tab (by decide +kernel) i
theorem d_Ref_beatAt_82 : decode (jm_cod M_Ref_beatAt) 82 = .ok (.imul, 1) := dt_Ref_beatAt_c2 0
theorem d_Ref_beatAt_83 : decode (jm_cod M_Ref_beatAt) 83 = .ok (.iadd, 1) := dt_Ref_beatAt_c2 1
theorem d_Ref_beatAt_84 : decode (jm_cod M_Ref_beatAt) 84 = .ok (.iload 5, 2) := dt_Ref_beatAt_c2 2
theorem d_Ref_beatAt_86 : decode (jm_cod M_Ref_beatAt) 86 = .ok (.irem, 1) := dt_Ref_beatAt_c2 3
theorem d_Ref_beatAt_87 : decode (jm_cod M_Ref_beatAt) 87 = .ok (.iadd, 1) := dt_Ref_beatAt_c2 4
theorem d_Ref_beatAt_88 : decode (jm_cod M_Ref_beatAt) 88 = .ok (.ireturn, 1) := dt_Ref_beatAt_c2 5
def tab_Ref_lanesOf_c0 : List (Nat × Instr × Nat) := [(0, .iconst 0, 1), (1, .istore_n 2, 1), (2, .iload_n 0, 1), (3, .istore_n 3, 1), (4, .iload_n 3, 1), (5, .iload_n 0, 1), (6, .iload_n 0, 1), (7, .iload_n 1, 1), (8, .irem, 1), (9, .isub, 1), (10, .iload_n 1, 1), (11, .iadd, 1), (12, .if_icmp .ge 18, 3), (15, .iload_n 2, 1), (16, .iconst 1, 1), (17, .iload_n 3, 1), (18, .bipush 8, 2), (20, .irem, 1), (21, .ishl, 1), (22, .ior, 1), (23, .istore_n 2, 1), (24, .iinc 3 1, 3), (27, .goto (-23), 3), (30, .iload_n 2, 1)]
theorem dt_Ref_lanesOf_c0 (i : Nat) : decode (jm_cod M_Ref_lanesOf) (tab_Ref_lanesOf_c0.getD i (0, .iconst 0, 1)).1 = .ok ((tab_Ref_lanesOf_c0.getD i (0, .iconst 0, 1)).2.1, (tab_Ref_lanesOf_c0.getD i (0, .iconst 0, 1)).2.2) := j_tab (by decide +kernel) i
theorem d_Ref_lanesOf_0 : decode (jm_cod M_Ref_lanesOf) 0 = .ok (.iconst 0, 1) := dt_Ref_lanesOf_c0 0
theorem d_Ref_lanesOf_1 : decode (jm_cod M_Ref_lanesOf) 1 = .ok (.istore_n 2, 1) := dt_Ref_lanesOf_c0 1
theorem d_Ref_lanesOf_2 : decode (jm_cod M_Ref_lanesOf) 2 = .ok (.iload_n 0, 1) := dt_Ref_lanesOf_c0 2
theorem d_Ref_lanesOf_3 : decode (jm_cod M_Ref_lanesOf) 3 = .ok (.istore_n 3, 1) := dt_Ref_lanesOf_c0 3
theorem d_Ref_lanesOf_4 : decode (jm_cod M_Ref_lanesOf) 4 = .ok (.iload_n 3, 1) := dt_Ref_lanesOf_c0 4
theorem d_Ref_lanesOf_5 : decode (jm_cod M_Ref_lanesOf) 5 = .ok (.iload_n 0, 1) := dt_Ref_lanesOf_c0 5
theorem d_Ref_lanesOf_6 : decode (jm_cod M_Ref_lanesOf) 6 = .ok (.iload_n 0, 1) := dt_Ref_lanesOf_c0 6
theorem d_Ref_lanesOf_7 : decode (jm_cod M_Ref_lanesOf) 7 = .ok (.iload_n 1, 1) := dt_Ref_lanesOf_c0 7
theorem d_Ref_lanesOf_8 : decode (jm_cod M_Ref_lanesOf) 8 = .ok (.irem, 1) := dt_Ref_lanesOf_c0 8
theorem d_Ref_lanesOf_9 : decode (jm_cod M_Ref_lanesOf) 9 = .ok (.isub, 1) := dt_Ref_lanesOf_c0 9
theorem d_Ref_lanesOf_10 : decode (jm_cod M_Ref_lanesOf) 10 = .ok (.iload_n 1, 1) := dt_Ref_lanesOf_c0 10
theorem d_Ref_lanesOf_11 : decode (jm_cod M_Ref_lanesOf) 11 = .ok (.iadd, 1) := dt_Ref_lanesOf_c0 11
theorem d_Ref_lanesOf_12 : decode (jm_cod M_Ref_lanesOf) 12 = .ok (.if_icmp .ge 18, 3) := dt_Ref_lanesOf_c0 12
theorem d_Ref_lanesOf_15 : decode (jm_cod M_Ref_lanesOf) 15 = .ok (.iload_n 2, 1) := dt_Ref_lanesOf_c0 13
theorem d_Ref_lanesOf_16 : decode (jm_cod M_Ref_lanesOf) 16 = .ok (.iconst 1, 1) := dt_Ref_lanesOf_c0 14
theorem d_Ref_lanesOf_17 : decode (jm_cod M_Ref_lanesOf) 17 = .ok (.iload_n 3, 1) := dt_Ref_lanesOf_c0 15
theorem d_Ref_lanesOf_18 : decode (jm_cod M_Ref_lanesOf) 18 = .ok (.bipush 8, 2) := dt_Ref_lanesOf_c0 16
theorem d_Ref_lanesOf_20 : decode (jm_cod M_Ref_lanesOf) 20 = .ok (.irem, 1) := dt_Ref_lanesOf_c0 17
theorem d_Ref_lanesOf_21 : decode (jm_cod M_Ref_lanesOf) 21 = .ok (.ishl, 1) := dt_Ref_lanesOf_c0 18
theorem d_Ref_lanesOf_22 : decode (jm_cod M_Ref_lanesOf) 22 = .ok (.ior, 1) := dt_Ref_lanesOf_c0 19
theorem d_Ref_lanesOf_23 : decode (jm_cod M_Ref_lanesOf) 23 = .ok (.istore_n 2, 1) := dt_Ref_lanesOf_c0 20
theorem d_Ref_lanesOf_24 : decode (jm_cod M_Ref_lanesOf) 24 = .ok (.iinc 3 1, 3) := dt_Ref_lanesOf_c0 21
theorem d_Ref_lanesOf_27 : decode (jm_cod M_Ref_lanesOf) 27 = .ok (.goto (-23), 3) := dt_Ref_lanesOf_c0 22
theorem d_Ref_lanesOf_30 : decode (jm_cod M_Ref_lanesOf) 30 = .ok (.iload_n 2, 1) := dt_Ref_lanesOf_c0 23
def tab_Ref_lanesOf_c1 : List (Nat × Instr × Nat) := [(31, .ireturn, 1)]
theorem dt_Ref_lanesOf_c1 (i : Nat) : decode (jm_cod M_Ref_lanesOf) (tab_Ref_lanesOf_c1.getD i (31, .ireturn, 1)).1 = .ok ((tab_Ref_lanesOf_c1.getD i (31, .ireturn, 1)).2.1, (tab_Ref_lanesOf_c1.getD i (31, .ireturn, 1)).2.2) := j_tab (by decide +kernel) i
theorem d_Ref_lanesOf_31 : decode (jm_cod M_Ref_lanesOf) 31 = .ok (.ireturn, 1) := dt_Ref_lanesOf_c1 0
def tab_Ref_maskOf_c0 : List (Nat × Instr × Nat) := [(0, .lconst 0, 1), (1, .lstore_n 1, 1), (2, .iconst 0, 1), (3, .istore_n 3, 1), (4, .iload_n 3, 1), (5, .bipush 8, 2), (7, .if_icmp .ge 33, 3), (10, .lload_n 1, 1), (11, .iload_n 0, 1), (12, .iload_n 3, 1), (13, .ishr, 1), (14, .iconst 1, 1), (15, .iand, 1), (16, .iconst 1, 1), (17, .if_icmp .ne 14, 3), (20, .ldc2_w 327, 3), (23, .bipush 8, 2), (25, .iload_n 3, 1), (26, .imul, 1), (27, .lshl, 1), (28, .goto 4, 3), (31, .lconst 0, 1), (32, .lor, 1), (33, .lstore_n 1, 1)]
theorem dt_Ref_maskOf_c0 (i : Nat) : decode (jm_cod M_Ref_maskOf) (tab_Ref_maskOf_c0.getD i (0, .lconst 0, 1)).1 = .ok ((tab_Ref_maskOf_c0.getD i (0, .lconst 0, 1)).2.1, (tab_Ref_maskOf_c0.getD i (0, .lconst 0, 1)).2.2) := j_tab (by decide +kernel) i
theorem d_Ref_maskOf_0 : decode (jm_cod M_Ref_maskOf) 0 = .ok (.lconst 0, 1) := dt_Ref_maskOf_c0 0
theorem d_Ref_maskOf_1 : decode (jm_cod M_Ref_maskOf) 1 = .ok (.lstore_n 1, 1) := dt_Ref_maskOf_c0 1
theorem d_Ref_maskOf_2 : decode (jm_cod M_Ref_maskOf) 2 = .ok (.iconst 0, 1) := dt_Ref_maskOf_c0 2
theorem d_Ref_maskOf_3 : decode (jm_cod M_Ref_maskOf) 3 = .ok (.istore_n 3, 1) := dt_Ref_maskOf_c0 3
theorem d_Ref_maskOf_4 : decode (jm_cod M_Ref_maskOf) 4 = .ok (.iload_n 3, 1) := dt_Ref_maskOf_c0 4
theorem d_Ref_maskOf_5 : decode (jm_cod M_Ref_maskOf) 5 = .ok (.bipush 8, 2) := dt_Ref_maskOf_c0 5
theorem d_Ref_maskOf_7 : decode (jm_cod M_Ref_maskOf) 7 = .ok (.if_icmp .ge 33, 3) := dt_Ref_maskOf_c0 6
theorem d_Ref_maskOf_10 : decode (jm_cod M_Ref_maskOf) 10 = .ok (.lload_n 1, 1) := dt_Ref_maskOf_c0 7
theorem d_Ref_maskOf_11 : decode (jm_cod M_Ref_maskOf) 11 = .ok (.iload_n 0, 1) := dt_Ref_maskOf_c0 8
theorem d_Ref_maskOf_12 : decode (jm_cod M_Ref_maskOf) 12 = .ok (.iload_n 3, 1) := dt_Ref_maskOf_c0 9
theorem d_Ref_maskOf_13 : decode (jm_cod M_Ref_maskOf) 13 = .ok (.ishr, 1) := dt_Ref_maskOf_c0 10
theorem d_Ref_maskOf_14 : decode (jm_cod M_Ref_maskOf) 14 = .ok (.iconst 1, 1) := dt_Ref_maskOf_c0 11
theorem d_Ref_maskOf_15 : decode (jm_cod M_Ref_maskOf) 15 = .ok (.iand, 1) := dt_Ref_maskOf_c0 12
theorem d_Ref_maskOf_16 : decode (jm_cod M_Ref_maskOf) 16 = .ok (.iconst 1, 1) := dt_Ref_maskOf_c0 13
theorem d_Ref_maskOf_17 : decode (jm_cod M_Ref_maskOf) 17 = .ok (.if_icmp .ne 14, 3) := dt_Ref_maskOf_c0 14
theorem d_Ref_maskOf_20 : decode (jm_cod M_Ref_maskOf) 20 = .ok (.ldc2_w 327, 3) := dt_Ref_maskOf_c0 15
theorem d_Ref_maskOf_23 : decode (jm_cod M_Ref_maskOf) 23 = .ok (.bipush 8, 2) := dt_Ref_maskOf_c0 16
theorem d_Ref_maskOf_25 : decode (jm_cod M_Ref_maskOf) 25 = .ok (.iload_n 3, 1) := dt_Ref_maskOf_c0 17
theorem d_Ref_maskOf_26 : decode (jm_cod M_Ref_maskOf) 26 = .ok (.imul, 1) := dt_Ref_maskOf_c0 18
theorem d_Ref_maskOf_27 : decode (jm_cod M_Ref_maskOf) 27 = .ok (.lshl, 1) := dt_Ref_maskOf_c0 19
theorem d_Ref_maskOf_28 : decode (jm_cod M_Ref_maskOf) 28 = .ok (.goto 4, 3) := dt_Ref_maskOf_c0 20
theorem d_Ref_maskOf_31 : decode (jm_cod M_Ref_maskOf) 31 = .ok (.lconst 0, 1) := dt_Ref_maskOf_c0 21
theorem d_Ref_maskOf_32 : decode (jm_cod M_Ref_maskOf) 32 = .ok (.lor, 1) := dt_Ref_maskOf_c0 22
theorem d_Ref_maskOf_33 : decode (jm_cod M_Ref_maskOf) 33 = .ok (.lstore_n 1, 1) := dt_Ref_maskOf_c0 23
def tab_Ref_maskOf_c1 : List (Nat × Instr × Nat) := [(34, .iinc 3 1, 3), (37, .goto (-33), 3), (40, .lload_n 1, 1), (41, .lreturn, 1)]
theorem dt_Ref_maskOf_c1 (i : Nat) : decode (jm_cod M_Ref_maskOf) (tab_Ref_maskOf_c1.getD i (34, .iinc 3 1, 3)).1 = .ok ((tab_Ref_maskOf_c1.getD i (34, .iinc 3 1, 3)).2.1, (tab_Ref_maskOf_c1.getD i (34, .iinc 3 1, 3)).2.2) := j_tab (by decide +kernel) i
theorem d_Ref_maskOf_34 : decode (jm_cod M_Ref_maskOf) 34 = .ok (.iinc 3 1, 3) := dt_Ref_maskOf_c1 0
theorem d_Ref_maskOf_37 : decode (jm_cod M_Ref_maskOf) 37 = .ok (.goto (-33), 3) := dt_Ref_maskOf_c1 1
theorem d_Ref_maskOf_40 : decode (jm_cod M_Ref_maskOf) 40 = .ok (.lload_n 1, 1) := dt_Ref_maskOf_c1 2
theorem d_Ref_maskOf_41 : decode (jm_cod M_Ref_maskOf) 41 = .ok (.lreturn, 1) := dt_Ref_maskOf_c1 3
def tab_Ref_rowOf_c0 : List (Nat × Instr × Nat) := [(0, .iconst 5, 1), (1, .iload_n 1, 1), (2, .ifCond .eq 9, 3), (5, .iconst 4, 1), (6, .iload_n 2, 1), (7, .iadd, 1), (8, .goto 4, 3), (11, .iload_n 2, 1), (12, .imul, 1), (13, .iload_n 3, 1), (14, .iadd, 1), (15, .ireturn, 1)]
theorem dt_Ref_rowOf_c0 (i : Nat) : decode (jm_cod M_Ref_rowOf) (tab_Ref_rowOf_c0.getD i (0, .iconst 5, 1)).1 = .ok ((tab_Ref_rowOf_c0.getD i (0, .iconst 5, 1)).2.1, (tab_Ref_rowOf_c0.getD i (0, .iconst 5, 1)).2.2) := j_tab (by decide +kernel) i
theorem d_Ref_rowOf_0 : decode (jm_cod M_Ref_rowOf) 0 = .ok (.iconst 5, 1) := dt_Ref_rowOf_c0 0
theorem d_Ref_rowOf_1 : decode (jm_cod M_Ref_rowOf) 1 = .ok (.iload_n 1, 1) := dt_Ref_rowOf_c0 1
theorem d_Ref_rowOf_2 : decode (jm_cod M_Ref_rowOf) 2 = .ok (.ifCond .eq 9, 3) := dt_Ref_rowOf_c0 2
theorem d_Ref_rowOf_5 : decode (jm_cod M_Ref_rowOf) 5 = .ok (.iconst 4, 1) := dt_Ref_rowOf_c0 3
theorem d_Ref_rowOf_6 : decode (jm_cod M_Ref_rowOf) 6 = .ok (.iload_n 2, 1) := dt_Ref_rowOf_c0 4
theorem d_Ref_rowOf_7 : decode (jm_cod M_Ref_rowOf) 7 = .ok (.iadd, 1) := dt_Ref_rowOf_c0 5
theorem d_Ref_rowOf_8 : decode (jm_cod M_Ref_rowOf) 8 = .ok (.goto 4, 3) := dt_Ref_rowOf_c0 6
theorem d_Ref_rowOf_11 : decode (jm_cod M_Ref_rowOf) 11 = .ok (.iload_n 2, 1) := dt_Ref_rowOf_c0 7
theorem d_Ref_rowOf_12 : decode (jm_cod M_Ref_rowOf) 12 = .ok (.imul, 1) := dt_Ref_rowOf_c0 8
theorem d_Ref_rowOf_13 : decode (jm_cod M_Ref_rowOf) 13 = .ok (.iload_n 3, 1) := dt_Ref_rowOf_c0 9
theorem d_Ref_rowOf_14 : decode (jm_cod M_Ref_rowOf) 14 = .ok (.iadd, 1) := dt_Ref_rowOf_c0 10
theorem d_Ref_rowOf_15 : decode (jm_cod M_Ref_rowOf) 15 = .ok (.ireturn, 1) := dt_Ref_rowOf_c0 11
def tab_Ref_hasRoom_c0 : List (Nat × Instr × Nat) := [(0, .aload_n 0, 1), (1, .getfield 115, 3), (4, .iload_n 1, 1), (5, .iaload, 1), (6, .iload_n 1, 1), (7, .invokestatic 333, 3), (10, .if_icmp .ge 7, 3), (13, .iconst 1, 1), (14, .goto 4, 3), (17, .iconst 0, 1), (18, .ireturn, 1)]
theorem dt_Ref_hasRoom_c0 (i : Nat) : decode (jm_cod M_Ref_hasRoom) (tab_Ref_hasRoom_c0.getD i (0, .aload_n 0, 1)).1 = .ok ((tab_Ref_hasRoom_c0.getD i (0, .aload_n 0, 1)).2.1, (tab_Ref_hasRoom_c0.getD i (0, .aload_n 0, 1)).2.2) := j_tab (by decide +kernel) i
theorem d_Ref_hasRoom_0 : decode (jm_cod M_Ref_hasRoom) 0 = .ok (.aload_n 0, 1) := dt_Ref_hasRoom_c0 0
theorem d_Ref_hasRoom_1 : decode (jm_cod M_Ref_hasRoom) 1 = .ok (.getfield 115, 3) := dt_Ref_hasRoom_c0 1
theorem d_Ref_hasRoom_4 : decode (jm_cod M_Ref_hasRoom) 4 = .ok (.iload_n 1, 1) := dt_Ref_hasRoom_c0 2
theorem d_Ref_hasRoom_5 : decode (jm_cod M_Ref_hasRoom) 5 = .ok (.iaload, 1) := dt_Ref_hasRoom_c0 3
theorem d_Ref_hasRoom_6 : decode (jm_cod M_Ref_hasRoom) 6 = .ok (.iload_n 1, 1) := dt_Ref_hasRoom_c0 4
theorem d_Ref_hasRoom_7 : decode (jm_cod M_Ref_hasRoom) 7 = .ok (.invokestatic 333, 3) := dt_Ref_hasRoom_c0 5
theorem d_Ref_hasRoom_10 : decode (jm_cod M_Ref_hasRoom) 10 = .ok (.if_icmp .ge 7, 3) := dt_Ref_hasRoom_c0 6
theorem d_Ref_hasRoom_13 : decode (jm_cod M_Ref_hasRoom) 13 = .ok (.iconst 1, 1) := dt_Ref_hasRoom_c0 7
theorem d_Ref_hasRoom_14 : decode (jm_cod M_Ref_hasRoom) 14 = .ok (.goto 4, 3) := dt_Ref_hasRoom_c0 8
theorem d_Ref_hasRoom_17 : decode (jm_cod M_Ref_hasRoom) 17 = .ok (.iconst 0, 1) := dt_Ref_hasRoom_c0 9
theorem d_Ref_hasRoom_18 : decode (jm_cod M_Ref_hasRoom) 18 = .ok (.ireturn, 1) := dt_Ref_hasRoom_c0 10
def tab_Ref_roomOf_c0 : List (Nat × Instr × Nat) := [(0, .iload_n 0, 1), (1, .iconst 5, 1), (2, .irem, 1), (3, .iconst 1, 1), (4, .if_icmp .eq 10, 3), (7, .iload_n 0, 1), (8, .iconst 5, 1), (9, .irem, 1), (10, .iconst 4, 1), (11, .if_icmp .ne 7, 3), (14, .iconst 4, 1), (15, .goto 4, 3), (18, .iconst 2, 1), (19, .ireturn, 1)]
theorem dt_Ref_roomOf_c0 (i : Nat) : decode (jm_cod M_Ref_roomOf) (tab_Ref_roomOf_c0.getD i (0, .iload_n 0, 1)).1 = .ok ((tab_Ref_roomOf_c0.getD i (0, .iload_n 0, 1)).2.1, (tab_Ref_roomOf_c0.getD i (0, .iload_n 0, 1)).2.2) := j_tab (by decide +kernel) i
theorem d_Ref_roomOf_0 : decode (jm_cod M_Ref_roomOf) 0 = .ok (.iload_n 0, 1) := dt_Ref_roomOf_c0 0
theorem d_Ref_roomOf_1 : decode (jm_cod M_Ref_roomOf) 1 = .ok (.iconst 5, 1) := dt_Ref_roomOf_c0 1
theorem d_Ref_roomOf_2 : decode (jm_cod M_Ref_roomOf) 2 = .ok (.irem, 1) := dt_Ref_roomOf_c0 2
theorem d_Ref_roomOf_3 : decode (jm_cod M_Ref_roomOf) 3 = .ok (.iconst 1, 1) := dt_Ref_roomOf_c0 3
theorem d_Ref_roomOf_4 : decode (jm_cod M_Ref_roomOf) 4 = .ok (.if_icmp .eq 10, 3) := dt_Ref_roomOf_c0 4
theorem d_Ref_roomOf_7 : decode (jm_cod M_Ref_roomOf) 7 = .ok (.iload_n 0, 1) := dt_Ref_roomOf_c0 5
theorem d_Ref_roomOf_8 : decode (jm_cod M_Ref_roomOf) 8 = .ok (.iconst 5, 1) := dt_Ref_roomOf_c0 6
theorem d_Ref_roomOf_9 : decode (jm_cod M_Ref_roomOf) 9 = .ok (.irem, 1) := dt_Ref_roomOf_c0 7
theorem d_Ref_roomOf_10 : decode (jm_cod M_Ref_roomOf) 10 = .ok (.iconst 4, 1) := dt_Ref_roomOf_c0 8
theorem d_Ref_roomOf_11 : decode (jm_cod M_Ref_roomOf) 11 = .ok (.if_icmp .ne 7, 3) := dt_Ref_roomOf_c0 9
theorem d_Ref_roomOf_14 : decode (jm_cod M_Ref_roomOf) 14 = .ok (.iconst 4, 1) := dt_Ref_roomOf_c0 10
theorem d_Ref_roomOf_15 : decode (jm_cod M_Ref_roomOf) 15 = .ok (.goto 4, 3) := dt_Ref_roomOf_c0 11
theorem d_Ref_roomOf_18 : decode (jm_cod M_Ref_roomOf) 18 = .ok (.iconst 2, 1) := dt_Ref_roomOf_c0 12
theorem d_Ref_roomOf_19 : decode (jm_cod M_Ref_roomOf) 19 = .ok (.ireturn, 1) := dt_Ref_roomOf_c0 13
def tab_Ref_showSlave_c0 : List (Nat × Instr × Nat) := [(0, .iconst 5, 1), (1, .iconst 4, 1), (2, .iload_n 1, 1), (3, .iadd, 1), (4, .imul, 1), (5, .istore_n 2, 1), (6, .iconst 0, 1), (7, .istore_n 3, 1), (8, .iload_n 3, 1), (9, .iconst 5, 1), (10, .if_icmp .ge 90, 3), (13, .iload_n 3, 1), (14, .iconst 2, 1), (15, .if_icmp .eq 8, 3), (18, .iload_n 3, 1), (19, .iconst 4, 1), (20, .if_icmp .ne 25, 3), (23, .aload_n 0, 1), (24, .getfield 91, 3), (27, .iload_n 2, 1), (28, .iload_n 3, 1), (29, .iadd, 1), (30, .aload_n 0, 1), (31, .aload_n 0, 1)]
theorem dt_Ref_showSlave_c0 (i : Nat) : decode (jm_cod M_Ref_showSlave) (tab_Ref_showSlave_c0.getD i (0, .iconst 5, 1)).1 = .ok ((tab_Ref_showSlave_c0.getD i (0, .iconst 5, 1)).2.1, (tab_Ref_showSlave_c0.getD i (0, .iconst 5, 1)).2.2) := j_tab (by decide +kernel) i
theorem d_Ref_showSlave_0 : decode (jm_cod M_Ref_showSlave) 0 = .ok (.iconst 5, 1) := dt_Ref_showSlave_c0 0
theorem d_Ref_showSlave_1 : decode (jm_cod M_Ref_showSlave) 1 = .ok (.iconst 4, 1) := dt_Ref_showSlave_c0 1
theorem d_Ref_showSlave_2 : decode (jm_cod M_Ref_showSlave) 2 = .ok (.iload_n 1, 1) := dt_Ref_showSlave_c0 2
theorem d_Ref_showSlave_3 : decode (jm_cod M_Ref_showSlave) 3 = .ok (.iadd, 1) := dt_Ref_showSlave_c0 3
theorem d_Ref_showSlave_4 : decode (jm_cod M_Ref_showSlave) 4 = .ok (.imul, 1) := dt_Ref_showSlave_c0 4
theorem d_Ref_showSlave_5 : decode (jm_cod M_Ref_showSlave) 5 = .ok (.istore_n 2, 1) := dt_Ref_showSlave_c0 5
theorem d_Ref_showSlave_6 : decode (jm_cod M_Ref_showSlave) 6 = .ok (.iconst 0, 1) := dt_Ref_showSlave_c0 6
theorem d_Ref_showSlave_7 : decode (jm_cod M_Ref_showSlave) 7 = .ok (.istore_n 3, 1) := dt_Ref_showSlave_c0 7
theorem d_Ref_showSlave_8 : decode (jm_cod M_Ref_showSlave) 8 = .ok (.iload_n 3, 1) := dt_Ref_showSlave_c0 8
theorem d_Ref_showSlave_9 : decode (jm_cod M_Ref_showSlave) 9 = .ok (.iconst 5, 1) := dt_Ref_showSlave_c0 9
theorem d_Ref_showSlave_10 : decode (jm_cod M_Ref_showSlave) 10 = .ok (.if_icmp .ge 90, 3) := dt_Ref_showSlave_c0 10
theorem d_Ref_showSlave_13 : decode (jm_cod M_Ref_showSlave) 13 = .ok (.iload_n 3, 1) := dt_Ref_showSlave_c0 11
theorem d_Ref_showSlave_14 : decode (jm_cod M_Ref_showSlave) 14 = .ok (.iconst 2, 1) := dt_Ref_showSlave_c0 12
theorem d_Ref_showSlave_15 : decode (jm_cod M_Ref_showSlave) 15 = .ok (.if_icmp .eq 8, 3) := dt_Ref_showSlave_c0 13
theorem d_Ref_showSlave_18 : decode (jm_cod M_Ref_showSlave) 18 = .ok (.iload_n 3, 1) := dt_Ref_showSlave_c0 14
theorem d_Ref_showSlave_19 : decode (jm_cod M_Ref_showSlave) 19 = .ok (.iconst 4, 1) := dt_Ref_showSlave_c0 15
theorem d_Ref_showSlave_20 : decode (jm_cod M_Ref_showSlave) 20 = .ok (.if_icmp .ne 25, 3) := dt_Ref_showSlave_c0 16
theorem d_Ref_showSlave_23 : decode (jm_cod M_Ref_showSlave) 23 = .ok (.aload_n 0, 1) := dt_Ref_showSlave_c0 17
theorem d_Ref_showSlave_24 : decode (jm_cod M_Ref_showSlave) 24 = .ok (.getfield 91, 3) := dt_Ref_showSlave_c0 18
theorem d_Ref_showSlave_27 : decode (jm_cod M_Ref_showSlave) 27 = .ok (.iload_n 2, 1) := dt_Ref_showSlave_c0 19
theorem d_Ref_showSlave_28 : decode (jm_cod M_Ref_showSlave) 28 = .ok (.iload_n 3, 1) := dt_Ref_showSlave_c0 20
theorem d_Ref_showSlave_29 : decode (jm_cod M_Ref_showSlave) 29 = .ok (.iadd, 1) := dt_Ref_showSlave_c0 21
theorem d_Ref_showSlave_30 : decode (jm_cod M_Ref_showSlave) 30 = .ok (.aload_n 0, 1) := dt_Ref_showSlave_c0 22
theorem d_Ref_showSlave_31 : decode (jm_cod M_Ref_showSlave) 31 = .ok (.aload_n 0, 1) := dt_Ref_showSlave_c0 23
def tab_Ref_showSlave_c1 : List (Nat × Instr × Nat) := [(32, .iconst 1, 1), (33, .iload_n 1, 1), (34, .iload_n 3, 1), (35, .invokevirtual 388, 3), (38, .invokevirtual 392, 3), (41, .bastore, 1), (42, .goto 52, 3), (45, .aload_n 0, 1), (46, .iconst 1, 1), (47, .iload_n 1, 1), (48, .iload_n 3, 1), (49, .invokevirtual 388, 3), (52, .istore 4, 2), (54, .aload_n 0, 1), (55, .iload_n 2, 1), (56, .iload_n 3, 1), (57, .iadd, 1), (58, .aload_n 0, 1), (59, .getfield 115, 3), (62, .iload 4, 2), (64, .iaload, 1), (65, .ifCond .le 7, 3), (68, .iconst 1, 1), (69, .goto 4, 3)]
theorem dt_Ref_showSlave_c1 (i : Nat) : decode (jm_cod M_Ref_showSlave) (tab_Ref_showSlave_c1.getD i (32, .iconst 1, 1)).1 = .ok ((tab_Ref_showSlave_c1.getD i (32, .iconst 1, 1)).2.1, (tab_Ref_showSlave_c1.getD i (32, .iconst 1, 1)).2.2) := j_tab (by decide +kernel) i
theorem d_Ref_showSlave_32 : decode (jm_cod M_Ref_showSlave) 32 = .ok (.iconst 1, 1) := dt_Ref_showSlave_c1 0
theorem d_Ref_showSlave_33 : decode (jm_cod M_Ref_showSlave) 33 = .ok (.iload_n 1, 1) := dt_Ref_showSlave_c1 1
theorem d_Ref_showSlave_34 : decode (jm_cod M_Ref_showSlave) 34 = .ok (.iload_n 3, 1) := dt_Ref_showSlave_c1 2
theorem d_Ref_showSlave_35 : decode (jm_cod M_Ref_showSlave) 35 = .ok (.invokevirtual 388, 3) := dt_Ref_showSlave_c1 3
theorem d_Ref_showSlave_38 : decode (jm_cod M_Ref_showSlave) 38 = .ok (.invokevirtual 392, 3) := dt_Ref_showSlave_c1 4
theorem d_Ref_showSlave_41 : decode (jm_cod M_Ref_showSlave) 41 = .ok (.bastore, 1) := dt_Ref_showSlave_c1 5
theorem d_Ref_showSlave_42 : decode (jm_cod M_Ref_showSlave) 42 = .ok (.goto 52, 3) := dt_Ref_showSlave_c1 6
theorem d_Ref_showSlave_45 : decode (jm_cod M_Ref_showSlave) 45 = .ok (.aload_n 0, 1) := dt_Ref_showSlave_c1 7
theorem d_Ref_showSlave_46 : decode (jm_cod M_Ref_showSlave) 46 = .ok (.iconst 1, 1) := dt_Ref_showSlave_c1 8
theorem d_Ref_showSlave_47 : decode (jm_cod M_Ref_showSlave) 47 = .ok (.iload_n 1, 1) := dt_Ref_showSlave_c1 9
theorem d_Ref_showSlave_48 : decode (jm_cod M_Ref_showSlave) 48 = .ok (.iload_n 3, 1) := dt_Ref_showSlave_c1 10
theorem d_Ref_showSlave_49 : decode (jm_cod M_Ref_showSlave) 49 = .ok (.invokevirtual 388, 3) := dt_Ref_showSlave_c1 11
theorem d_Ref_showSlave_52 : decode (jm_cod M_Ref_showSlave) 52 = .ok (.istore 4, 2) := dt_Ref_showSlave_c1 12
theorem d_Ref_showSlave_54 : decode (jm_cod M_Ref_showSlave) 54 = .ok (.aload_n 0, 1) := dt_Ref_showSlave_c1 13
theorem d_Ref_showSlave_55 : decode (jm_cod M_Ref_showSlave) 55 = .ok (.iload_n 2, 1) := dt_Ref_showSlave_c1 14
theorem d_Ref_showSlave_56 : decode (jm_cod M_Ref_showSlave) 56 = .ok (.iload_n 3, 1) := dt_Ref_showSlave_c1 15
theorem d_Ref_showSlave_57 : decode (jm_cod M_Ref_showSlave) 57 = .ok (.iadd, 1) := dt_Ref_showSlave_c1 16
theorem d_Ref_showSlave_58 : decode (jm_cod M_Ref_showSlave) 58 = .ok (.aload_n 0, 1) := dt_Ref_showSlave_c1 17
theorem d_Ref_showSlave_59 : decode (jm_cod M_Ref_showSlave) 59 = .ok (.getfield 115, 3) := dt_Ref_showSlave_c1 18
theorem d_Ref_showSlave_62 : decode (jm_cod M_Ref_showSlave) 62 = .ok (.iload 4, 2) := dt_Ref_showSlave_c1 19
theorem d_Ref_showSlave_64 : decode (jm_cod M_Ref_showSlave) 64 = .ok (.iaload, 1) := dt_Ref_showSlave_c1 20
theorem d_Ref_showSlave_65 : decode (jm_cod M_Ref_showSlave) 65 = .ok (.ifCond .le 7, 3) := dt_Ref_showSlave_c1 21
theorem d_Ref_showSlave_68 : decode (jm_cod M_Ref_showSlave) 68 = .ok (.iconst 1, 1) := dt_Ref_showSlave_c1 22
theorem d_Ref_showSlave_69 : decode (jm_cod M_Ref_showSlave) 69 = .ok (.goto 4, 3) := dt_Ref_showSlave_c1 23
def tab_Ref_showSlave_c2 : List (Nat × Instr × Nat) := [(72, .iconst 0, 1), (73, .aload_n 0, 1), (74, .getfield 106, 3), (77, .iconst 4, 1), (78, .iload 4, 2), (80, .imul, 1), (81, .laload, 1), (82, .aload_n 0, 1), (83, .getfield 109, 3), (86, .iconst 4, 1), (87, .iload 4, 2), (89, .imul, 1), (90, .iaload, 1), (91, .invokevirtual 359, 3), (94, .iinc 3 1, 3), (97, .goto (-89), 3), (100, .iconst 0, 1), (101, .istore_n 3, 1), (102, .iconst 0, 1), (103, .istore 4, 2), (105, .iload 4, 2), (107, .aload_n 0, 1), (108, .getfield 154, 3), (111, .iload_n 1, 1)]
theorem dt_Ref_showSlave_c2 (i : Nat) : decode (jm_cod M_Ref_showSlave) (tab_Ref_showSlave_c2.getD i (72, .iconst 0, 1)).1 = .ok ((tab_Ref_showSlave_c2.getD i (72, .iconst 0, 1)).2.1, (tab_Ref_showSlave_c2.getD i (72, .iconst 0, 1)).2.2) := j_tab (by decide +kernel) i
theorem d_Ref_showSlave_72 : decode (jm_cod M_Ref_showSlave) 72 = .ok (.iconst 0, 1) := dt_Ref_showSlave_c2 0
theorem d_Ref_showSlave_73 : decode (jm_cod M_Ref_showSlave) 73 = .ok (.aload_n 0, 1) := dt_Ref_showSlave_c2 1
theorem d_Ref_showSlave_74 : decode (jm_cod M_Ref_showSlave) 74 = .ok (.getfield 106, 3) := dt_Ref_showSlave_c2 2
theorem d_Ref_showSlave_77 : decode (jm_cod M_Ref_showSlave) 77 = .ok (.iconst 4, 1) := dt_Ref_showSlave_c2 3
theorem d_Ref_showSlave_78 : decode (jm_cod M_Ref_showSlave) 78 = .ok (.iload 4, 2) := dt_Ref_showSlave_c2 4
theorem d_Ref_showSlave_80 : decode (jm_cod M_Ref_showSlave) 80 = .ok (.imul, 1) := dt_Ref_showSlave_c2 5
theorem d_Ref_showSlave_81 : decode (jm_cod M_Ref_showSlave) 81 = .ok (.laload, 1) := dt_Ref_showSlave_c2 6
theorem d_Ref_showSlave_82 : decode (jm_cod M_Ref_showSlave) 82 = .ok (.aload_n 0, 1) := dt_Ref_showSlave_c2 7
theorem d_Ref_showSlave_83 : decode (jm_cod M_Ref_showSlave) 83 = .ok (.getfield 109, 3) := dt_Ref_showSlave_c2 8
theorem d_Ref_showSlave_86 : decode (jm_cod M_Ref_showSlave) 86 = .ok (.iconst 4, 1) := dt_Ref_showSlave_c2 9
theorem d_Ref_showSlave_87 : decode (jm_cod M_Ref_showSlave) 87 = .ok (.iload 4, 2) := dt_Ref_showSlave_c2 10
theorem d_Ref_showSlave_89 : decode (jm_cod M_Ref_showSlave) 89 = .ok (.imul, 1) := dt_Ref_showSlave_c2 11
theorem d_Ref_showSlave_90 : decode (jm_cod M_Ref_showSlave) 90 = .ok (.iaload, 1) := dt_Ref_showSlave_c2 12
theorem d_Ref_showSlave_91 : decode (jm_cod M_Ref_showSlave) 91 = .ok (.invokevirtual 359, 3) := dt_Ref_showSlave_c2 13
theorem d_Ref_showSlave_94 : decode (jm_cod M_Ref_showSlave) 94 = .ok (.iinc 3 1, 3) := dt_Ref_showSlave_c2 14
theorem d_Ref_showSlave_97 : decode (jm_cod M_Ref_showSlave) 97 = .ok (.goto (-89), 3) := dt_Ref_showSlave_c2 15
theorem d_Ref_showSlave_100 : decode (jm_cod M_Ref_showSlave) 100 = .ok (.iconst 0, 1) := dt_Ref_showSlave_c2 16
theorem d_Ref_showSlave_101 : decode (jm_cod M_Ref_showSlave) 101 = .ok (.istore_n 3, 1) := dt_Ref_showSlave_c2 17
theorem d_Ref_showSlave_102 : decode (jm_cod M_Ref_showSlave) 102 = .ok (.iconst 0, 1) := dt_Ref_showSlave_c2 18
theorem d_Ref_showSlave_103 : decode (jm_cod M_Ref_showSlave) 103 = .ok (.istore 4, 2) := dt_Ref_showSlave_c2 19
theorem d_Ref_showSlave_105 : decode (jm_cod M_Ref_showSlave) 105 = .ok (.iload 4, 2) := dt_Ref_showSlave_c2 20
theorem d_Ref_showSlave_107 : decode (jm_cod M_Ref_showSlave) 107 = .ok (.aload_n 0, 1) := dt_Ref_showSlave_c2 21
theorem d_Ref_showSlave_108 : decode (jm_cod M_Ref_showSlave) 108 = .ok (.getfield 154, 3) := dt_Ref_showSlave_c2 22
theorem d_Ref_showSlave_111 : decode (jm_cod M_Ref_showSlave) 111 = .ok (.iload_n 1, 1) := dt_Ref_showSlave_c2 23
def tab_Ref_showSlave_c3 : List (Nat × Instr × Nat) := [(112, .iaload, 1), (113, .if_icmp .ge 52, 3), (116, .aload_n 0, 1), (117, .getfield 157, 3), (120, .iconst 4, 1), (121, .iload_n 1, 1), (122, .imul, 1), (123, .iload 4, 2), (125, .iadd, 1), (126, .iaload, 1), (127, .istore 5, 2), (129, .iload_n 3, 1), (130, .ifCond .ne 23, 3), (133, .aload_n 0, 1), (134, .getfield 166, 3), (137, .iload 5, 2), (139, .iaload, 1), (140, .aload_n 0, 1), (141, .getfield 163, 3), (144, .iload 5, 2), (146, .laload, 1), (147, .invokestatic 321, 3), (150, .if_icmp .ge 7, 3), (153, .iconst 1, 1)]
theorem dt_Ref_showSlave_c3 (i : Nat) : decode (jm_cod M_Ref_showSlave) (tab_Ref_showSlave_c3.getD i (112, .iaload, 1)).1 = .ok ((tab_Ref_showSlave_c3.getD i (112, .iaload, 1)).2.1, (tab_Ref_showSlave_c3.getD i (112, .iaload, 1)).2.2) := j_tab (by decide +kernel) i
theorem d_Ref_showSlave_112 : decode (jm_cod M_Ref_showSlave) 112 = .ok (.iaload, 1) := dt_Ref_showSlave_c3 0
theorem d_Ref_showSlave_113 : decode (jm_cod M_Ref_showSlave) 113 = .ok (.if_icmp .ge 52, 3) := dt_Ref_showSlave_c3 1
theorem d_Ref_showSlave_116 : decode (jm_cod M_Ref_showSlave) 116 = .ok (.aload_n 0, 1) := dt_Ref_showSlave_c3 2
theorem d_Ref_showSlave_117 : decode (jm_cod M_Ref_showSlave) 117 = .ok (.getfield 157, 3) := dt_Ref_showSlave_c3 3
theorem d_Ref_showSlave_120 : decode (jm_cod M_Ref_showSlave) 120 = .ok (.iconst 4, 1) := dt_Ref_showSlave_c3 4
theorem d_Ref_showSlave_121 : decode (jm_cod M_Ref_showSlave) 121 = .ok (.iload_n 1, 1) := dt_Ref_showSlave_c3 5
theorem d_Ref_showSlave_122 : decode (jm_cod M_Ref_showSlave) 122 = .ok (.imul, 1) := dt_Ref_showSlave_c3 6
theorem d_Ref_showSlave_123 : decode (jm_cod M_Ref_showSlave) 123 = .ok (.iload 4, 2) := dt_Ref_showSlave_c3 7
theorem d_Ref_showSlave_125 : decode (jm_cod M_Ref_showSlave) 125 = .ok (.iadd, 1) := dt_Ref_showSlave_c3 8
theorem d_Ref_showSlave_126 : decode (jm_cod M_Ref_showSlave) 126 = .ok (.iaload, 1) := dt_Ref_showSlave_c3 9
theorem d_Ref_showSlave_127 : decode (jm_cod M_Ref_showSlave) 127 = .ok (.istore 5, 2) := dt_Ref_showSlave_c3 10
theorem d_Ref_showSlave_129 : decode (jm_cod M_Ref_showSlave) 129 = .ok (.iload_n 3, 1) := dt_Ref_showSlave_c3 11
theorem d_Ref_showSlave_130 : decode (jm_cod M_Ref_showSlave) 130 = .ok (.ifCond .ne 23, 3) := dt_Ref_showSlave_c3 12
theorem d_Ref_showSlave_133 : decode (jm_cod M_Ref_showSlave) 133 = .ok (.aload_n 0, 1) := dt_Ref_showSlave_c3 13
theorem d_Ref_showSlave_134 : decode (jm_cod M_Ref_showSlave) 134 = .ok (.getfield 166, 3) := dt_Ref_showSlave_c3 14
theorem d_Ref_showSlave_137 : decode (jm_cod M_Ref_showSlave) 137 = .ok (.iload 5, 2) := dt_Ref_showSlave_c3 15
theorem d_Ref_showSlave_139 : decode (jm_cod M_Ref_showSlave) 139 = .ok (.iaload, 1) := dt_Ref_showSlave_c3 16
theorem d_Ref_showSlave_140 : decode (jm_cod M_Ref_showSlave) 140 = .ok (.aload_n 0, 1) := dt_Ref_showSlave_c3 17
theorem d_Ref_showSlave_141 : decode (jm_cod M_Ref_showSlave) 141 = .ok (.getfield 163, 3) := dt_Ref_showSlave_c3 18
theorem d_Ref_showSlave_144 : decode (jm_cod M_Ref_showSlave) 144 = .ok (.iload 5, 2) := dt_Ref_showSlave_c3 19
theorem d_Ref_showSlave_146 : decode (jm_cod M_Ref_showSlave) 146 = .ok (.laload, 1) := dt_Ref_showSlave_c3 20
theorem d_Ref_showSlave_147 : decode (jm_cod M_Ref_showSlave) 147 = .ok (.invokestatic 321, 3) := dt_Ref_showSlave_c3 21
theorem d_Ref_showSlave_150 : decode (jm_cod M_Ref_showSlave) 150 = .ok (.if_icmp .ge 7, 3) := dt_Ref_showSlave_c3 22
theorem d_Ref_showSlave_153 : decode (jm_cod M_Ref_showSlave) 153 = .ok (.iconst 1, 1) := dt_Ref_showSlave_c3 23
def tab_Ref_showSlave_c4 : List (Nat × Instr × Nat) := [(154, .goto 4, 3), (157, .iconst 0, 1), (158, .istore_n 3, 1), (159, .iinc 4 1, 3), (162, .goto (-57), 3), (165, .aload_n 0, 1), (166, .getfield 91, 3), (169, .iload_n 2, 1), (170, .iconst 0, 1), (171, .iadd, 1), (172, .aload_n 0, 1), (173, .getfield 16, 3), (176, .iconst 5, 1), (177, .iload_n 1, 1), (178, .imul, 1), (179, .iconst 0, 1), (180, .iadd, 1), (181, .iaload, 1), (182, .aload_n 0, 1), (183, .getfield 348, 3), (186, .invokestatic 351, 3), (189, .ifCond .eq 17, 3), (192, .aload_n 0, 1), (193, .getfield 154, 3)]
theorem dt_Ref_showSlave_c4 (i : Nat) : decode (jm_cod M_Ref_showSlave) (tab_Ref_showSlave_c4.getD i (154, .goto 4, 3)).1 = .ok ((tab_Ref_showSlave_c4.getD i (154, .goto 4, 3)).2.1, (tab_Ref_showSlave_c4.getD i (154, .goto 4, 3)).2.2) := j_tab (by decide +kernel) i
theorem d_Ref_showSlave_154 : decode (jm_cod M_Ref_showSlave) 154 = .ok (.goto 4, 3) := dt_Ref_showSlave_c4 0
theorem d_Ref_showSlave_157 : decode (jm_cod M_Ref_showSlave) 157 = .ok (.iconst 0, 1) := dt_Ref_showSlave_c4 1
theorem d_Ref_showSlave_158 : decode (jm_cod M_Ref_showSlave) 158 = .ok (.istore_n 3, 1) := dt_Ref_showSlave_c4 2
theorem d_Ref_showSlave_159 : decode (jm_cod M_Ref_showSlave) 159 = .ok (.iinc 4 1, 3) := dt_Ref_showSlave_c4 3
theorem d_Ref_showSlave_162 : decode (jm_cod M_Ref_showSlave) 162 = .ok (.goto (-57), 3) := dt_Ref_showSlave_c4 4
theorem d_Ref_showSlave_165 : decode (jm_cod M_Ref_showSlave) 165 = .ok (.aload_n 0, 1) := dt_Ref_showSlave_c4 5
theorem d_Ref_showSlave_166 : decode (jm_cod M_Ref_showSlave) 166 = .ok (.getfield 91, 3) := dt_Ref_showSlave_c4 6
theorem d_Ref_showSlave_169 : decode (jm_cod M_Ref_showSlave) 169 = .ok (.iload_n 2, 1) := dt_Ref_showSlave_c4 7
theorem d_Ref_showSlave_170 : decode (jm_cod M_Ref_showSlave) 170 = .ok (.iconst 0, 1) := dt_Ref_showSlave_c4 8
theorem d_Ref_showSlave_171 : decode (jm_cod M_Ref_showSlave) 171 = .ok (.iadd, 1) := dt_Ref_showSlave_c4 9
theorem d_Ref_showSlave_172 : decode (jm_cod M_Ref_showSlave) 172 = .ok (.aload_n 0, 1) := dt_Ref_showSlave_c4 10
theorem d_Ref_showSlave_173 : decode (jm_cod M_Ref_showSlave) 173 = .ok (.getfield 16, 3) := dt_Ref_showSlave_c4 11
theorem d_Ref_showSlave_176 : decode (jm_cod M_Ref_showSlave) 176 = .ok (.iconst 5, 1) := dt_Ref_showSlave_c4 12
theorem d_Ref_showSlave_177 : decode (jm_cod M_Ref_showSlave) 177 = .ok (.iload_n 1, 1) := dt_Ref_showSlave_c4 13
theorem d_Ref_showSlave_178 : decode (jm_cod M_Ref_showSlave) 178 = .ok (.imul, 1) := dt_Ref_showSlave_c4 14
theorem d_Ref_showSlave_179 : decode (jm_cod M_Ref_showSlave) 179 = .ok (.iconst 0, 1) := dt_Ref_showSlave_c4 15
theorem d_Ref_showSlave_180 : decode (jm_cod M_Ref_showSlave) 180 = .ok (.iadd, 1) := dt_Ref_showSlave_c4 16
theorem d_Ref_showSlave_181 : decode (jm_cod M_Ref_showSlave) 181 = .ok (.iaload, 1) := dt_Ref_showSlave_c4 17
theorem d_Ref_showSlave_182 : decode (jm_cod M_Ref_showSlave) 182 = .ok (.aload_n 0, 1) := dt_Ref_showSlave_c4 18
theorem d_Ref_showSlave_183 : decode (jm_cod M_Ref_showSlave) 183 = .ok (.getfield 348, 3) := dt_Ref_showSlave_c4 19
theorem d_Ref_showSlave_186 : decode (jm_cod M_Ref_showSlave) 186 = .ok (.invokestatic 351, 3) := dt_Ref_showSlave_c4 20
theorem d_Ref_showSlave_189 : decode (jm_cod M_Ref_showSlave) 189 = .ok (.ifCond .eq 17, 3) := dt_Ref_showSlave_c4 21
theorem d_Ref_showSlave_192 : decode (jm_cod M_Ref_showSlave) 192 = .ok (.aload_n 0, 1) := dt_Ref_showSlave_c4 22
theorem d_Ref_showSlave_193 : decode (jm_cod M_Ref_showSlave) 193 = .ok (.getfield 154, 3) := dt_Ref_showSlave_c4 23
def tab_Ref_showSlave_c5 : List (Nat × Instr × Nat) := [(196, .iload_n 1, 1), (197, .iaload, 1), (198, .iconst 4, 1), (199, .if_icmp .ge 7, 3), (202, .iconst 1, 1), (203, .goto 4, 3), (206, .iconst 0, 1), (207, .bastore, 1), (208, .aload_n 0, 1), (209, .getfield 91, 3), (212, .iload_n 2, 1), (213, .iconst 1, 1), (214, .iadd, 1), (215, .aload_n 0, 1), (216, .getfield 16, 3), (219, .iconst 5, 1), (220, .iload_n 1, 1), (221, .imul, 1), (222, .iconst 1, 1), (223, .iadd, 1), (224, .iaload, 1), (225, .aload_n 0, 1), (226, .getfield 348, 3), (229, .invokestatic 351, 3)]
theorem dt_Ref_showSlave_c5 (i : Nat) : decode (jm_cod M_Ref_showSlave) (tab_Ref_showSlave_c5.getD i (196, .iload_n 1, 1)).1 = .ok ((tab_Ref_showSlave_c5.getD i (196, .iload_n 1, 1)).2.1, (tab_Ref_showSlave_c5.getD i (196, .iload_n 1, 1)).2.2) := j_tab (by decide +kernel) i
theorem d_Ref_showSlave_196 : decode (jm_cod M_Ref_showSlave) 196 = .ok (.iload_n 1, 1) := dt_Ref_showSlave_c5 0
theorem d_Ref_showSlave_197 : decode (jm_cod M_Ref_showSlave) 197 = .ok (.iaload, 1) := dt_Ref_showSlave_c5 1
theorem d_Ref_showSlave_198 : decode (jm_cod M_Ref_showSlave) 198 = .ok (.iconst 4, 1) := dt_Ref_showSlave_c5 2
theorem d_Ref_showSlave_199 : decode (jm_cod M_Ref_showSlave) 199 = .ok (.if_icmp .ge 7, 3) := dt_Ref_showSlave_c5 3
theorem d_Ref_showSlave_202 : decode (jm_cod M_Ref_showSlave) 202 = .ok (.iconst 1, 1) := dt_Ref_showSlave_c5 4
theorem d_Ref_showSlave_203 : decode (jm_cod M_Ref_showSlave) 203 = .ok (.goto 4, 3) := dt_Ref_showSlave_c5 5
theorem d_Ref_showSlave_206 : decode (jm_cod M_Ref_showSlave) 206 = .ok (.iconst 0, 1) := dt_Ref_showSlave_c5 6
theorem d_Ref_showSlave_207 : decode (jm_cod M_Ref_showSlave) 207 = .ok (.bastore, 1) := dt_Ref_showSlave_c5 7
theorem d_Ref_showSlave_208 : decode (jm_cod M_Ref_showSlave) 208 = .ok (.aload_n 0, 1) := dt_Ref_showSlave_c5 8
theorem d_Ref_showSlave_209 : decode (jm_cod M_Ref_showSlave) 209 = .ok (.getfield 91, 3) := dt_Ref_showSlave_c5 9
theorem d_Ref_showSlave_212 : decode (jm_cod M_Ref_showSlave) 212 = .ok (.iload_n 2, 1) := dt_Ref_showSlave_c5 10
theorem d_Ref_showSlave_213 : decode (jm_cod M_Ref_showSlave) 213 = .ok (.iconst 1, 1) := dt_Ref_showSlave_c5 11
theorem d_Ref_showSlave_214 : decode (jm_cod M_Ref_showSlave) 214 = .ok (.iadd, 1) := dt_Ref_showSlave_c5 12
theorem d_Ref_showSlave_215 : decode (jm_cod M_Ref_showSlave) 215 = .ok (.aload_n 0, 1) := dt_Ref_showSlave_c5 13
theorem d_Ref_showSlave_216 : decode (jm_cod M_Ref_showSlave) 216 = .ok (.getfield 16, 3) := dt_Ref_showSlave_c5 14
theorem d_Ref_showSlave_219 : decode (jm_cod M_Ref_showSlave) 219 = .ok (.iconst 5, 1) := dt_Ref_showSlave_c5 15
theorem d_Ref_showSlave_220 : decode (jm_cod M_Ref_showSlave) 220 = .ok (.iload_n 1, 1) := dt_Ref_showSlave_c5 16
theorem d_Ref_showSlave_221 : decode (jm_cod M_Ref_showSlave) 221 = .ok (.imul, 1) := dt_Ref_showSlave_c5 17
theorem d_Ref_showSlave_222 : decode (jm_cod M_Ref_showSlave) 222 = .ok (.iconst 1, 1) := dt_Ref_showSlave_c5 18
theorem d_Ref_showSlave_223 : decode (jm_cod M_Ref_showSlave) 223 = .ok (.iadd, 1) := dt_Ref_showSlave_c5 19
theorem d_Ref_showSlave_224 : decode (jm_cod M_Ref_showSlave) 224 = .ok (.iaload, 1) := dt_Ref_showSlave_c5 20
theorem d_Ref_showSlave_225 : decode (jm_cod M_Ref_showSlave) 225 = .ok (.aload_n 0, 1) := dt_Ref_showSlave_c5 21
theorem d_Ref_showSlave_226 : decode (jm_cod M_Ref_showSlave) 226 = .ok (.getfield 348, 3) := dt_Ref_showSlave_c5 22
theorem d_Ref_showSlave_229 : decode (jm_cod M_Ref_showSlave) 229 = .ok (.invokestatic 351, 3) := dt_Ref_showSlave_c5 23
def tab_Ref_showSlave_c6 : List (Nat × Instr × Nat) := [(232, .ifCond .eq 11, 3), (235, .iload_n 3, 1), (236, .ifCond .eq 7, 3), (239, .iconst 1, 1), (240, .goto 4, 3), (243, .iconst 0, 1), (244, .bastore, 1), (245, .aload_n 0, 1), (246, .getfield 91, 3), (249, .iload_n 2, 1), (250, .iconst 3, 1), (251, .iadd, 1), (252, .aload_n 0, 1), (253, .getfield 16, 3), (256, .iconst 5, 1), (257, .iload_n 1, 1), (258, .imul, 1), (259, .iconst 3, 1), (260, .iadd, 1), (261, .iaload, 1), (262, .aload_n 0, 1), (263, .getfield 348, 3), (266, .invokestatic 351, 3), (269, .ifCond .eq 17, 3)]
theorem dt_Ref_showSlave_c6 (i : Nat) : decode (jm_cod M_Ref_showSlave) (tab_Ref_showSlave_c6.getD i (232, .ifCond .eq 11, 3)).1 = .ok ((tab_Ref_showSlave_c6.getD i (232, .ifCond .eq 11, 3)).2.1, (tab_Ref_showSlave_c6.getD i (232, .ifCond .eq 11, 3)).2.2) := j_tab (by decide +kernel) i
theorem d_Ref_showSlave_232 : decode (jm_cod M_Ref_showSlave) 232 = .ok (.ifCond .eq 11, 3) := dt_Ref_showSlave_c6 0
theorem d_Ref_showSlave_235 : decode (jm_cod M_Ref_showSlave) 235 = .ok (.iload_n 3, 1) := dt_Ref_showSlave_c6 1
theorem d_Ref_showSlave_236 : decode (jm_cod M_Ref_showSlave) 236 = .ok (.ifCond .eq 7, 3) := dt_Ref_showSlave_c6 2
theorem d_Ref_showSlave_239 : decode (jm_cod M_Ref_showSlave) 239 = .ok (.iconst 1, 1) := dt_Ref_showSlave_c6 3
theorem d_Ref_showSlave_240 : decode (jm_cod M_Ref_showSlave) 240 = .ok (.goto 4, 3) := dt_Ref_showSlave_c6 4
theorem d_Ref_showSlave_243 : decode (jm_cod M_Ref_showSlave) 243 = .ok (.iconst 0, 1) := dt_Ref_showSlave_c6 5
theorem d_Ref_showSlave_244 : decode (jm_cod M_Ref_showSlave) 244 = .ok (.bastore, 1) := dt_Ref_showSlave_c6 6
theorem d_Ref_showSlave_245 : decode (jm_cod M_Ref_showSlave) 245 = .ok (.aload_n 0, 1) := dt_Ref_showSlave_c6 7
theorem d_Ref_showSlave_246 : decode (jm_cod M_Ref_showSlave) 246 = .ok (.getfield 91, 3) := dt_Ref_showSlave_c6 8
theorem d_Ref_showSlave_249 : decode (jm_cod M_Ref_showSlave) 249 = .ok (.iload_n 2, 1) := dt_Ref_showSlave_c6 9
theorem d_Ref_showSlave_250 : decode (jm_cod M_Ref_showSlave) 250 = .ok (.iconst 3, 1) := dt_Ref_showSlave_c6 10
theorem d_Ref_showSlave_251 : decode (jm_cod M_Ref_showSlave) 251 = .ok (.iadd, 1) := dt_Ref_showSlave_c6 11
theorem d_Ref_showSlave_252 : decode (jm_cod M_Ref_showSlave) 252 = .ok (.aload_n 0, 1) := dt_Ref_showSlave_c6 12
theorem d_Ref_showSlave_253 : decode (jm_cod M_Ref_showSlave) 253 = .ok (.getfield 16, 3) := dt_Ref_showSlave_c6 13
theorem d_Ref_showSlave_256 : decode (jm_cod M_Ref_showSlave) 256 = .ok (.iconst 5, 1) := dt_Ref_showSlave_c6 14
theorem d_Ref_showSlave_257 : decode (jm_cod M_Ref_showSlave) 257 = .ok (.iload_n 1, 1) := dt_Ref_showSlave_c6 15
theorem d_Ref_showSlave_258 : decode (jm_cod M_Ref_showSlave) 258 = .ok (.imul, 1) := dt_Ref_showSlave_c6 16
theorem d_Ref_showSlave_259 : decode (jm_cod M_Ref_showSlave) 259 = .ok (.iconst 3, 1) := dt_Ref_showSlave_c6 17
theorem d_Ref_showSlave_260 : decode (jm_cod M_Ref_showSlave) 260 = .ok (.iadd, 1) := dt_Ref_showSlave_c6 18
theorem d_Ref_showSlave_261 : decode (jm_cod M_Ref_showSlave) 261 = .ok (.iaload, 1) := dt_Ref_showSlave_c6 19
theorem d_Ref_showSlave_262 : decode (jm_cod M_Ref_showSlave) 262 = .ok (.aload_n 0, 1) := dt_Ref_showSlave_c6 20
theorem d_Ref_showSlave_263 : decode (jm_cod M_Ref_showSlave) 263 = .ok (.getfield 348, 3) := dt_Ref_showSlave_c6 21
theorem d_Ref_showSlave_266 : decode (jm_cod M_Ref_showSlave) 266 = .ok (.invokestatic 351, 3) := dt_Ref_showSlave_c6 22
theorem d_Ref_showSlave_269 : decode (jm_cod M_Ref_showSlave) 269 = .ok (.ifCond .eq 17, 3) := dt_Ref_showSlave_c6 23
def tab_Ref_showSlave_c7 : List (Nat × Instr × Nat) := [(272, .aload_n 0, 1), (273, .getfield 181, 3), (276, .iload_n 1, 1), (277, .iaload, 1), (278, .iconst 4, 1), (279, .if_icmp .ge 7, 3), (282, .iconst 1, 1), (283, .goto 4, 3), (286, .iconst 0, 1), (287, .bastore, 1), (288, .aload_n 0, 1), (289, .getfield 100, 3), (292, .iload_n 2, 1), (293, .iconst 2, 1), (294, .iadd, 1), (295, .baload, 1), (296, .ifCond .ne 50, 3), (299, .aload_n 0, 1), (300, .getfield 214, 3), (303, .iload_n 1, 1), (304, .aload_n 0, 1), (305, .iload_n 1, 1), (306, .invokevirtual 409, 3), (309, .iastore, 1)]
theorem dt_Ref_showSlave_c7 (i : Nat) : decode (jm_cod M_Ref_showSlave) (tab_Ref_showSlave_c7.getD i (272, .aload_n 0, 1)).1 = .ok ((tab_Ref_showSlave_c7.getD i (272, .aload_n 0, 1)).2.1, (tab_Ref_showSlave_c7.getD i (272, .aload_n 0, 1)).2.2) := j_tab (by decide +kernel) i
theorem d_Ref_showSlave_272 : decode (jm_cod M_Ref_showSlave) 272 = .ok (.aload_n 0, 1) := dt_Ref_showSlave_c7 0
theorem d_Ref_showSlave_273 : decode (jm_cod M_Ref_showSlave) 273 = .ok (.getfield 181, 3) := dt_Ref_showSlave_c7 1
theorem d_Ref_showSlave_276 : decode (jm_cod M_Ref_showSlave) 276 = .ok (.iload_n 1, 1) := dt_Ref_showSlave_c7 2
theorem d_Ref_showSlave_277 : decode (jm_cod M_Ref_showSlave) 277 = .ok (.iaload, 1) := dt_Ref_showSlave_c7 3
theorem d_Ref_showSlave_278 : decode (jm_cod M_Ref_showSlave) 278 = .ok (.iconst 4, 1) := dt_Ref_showSlave_c7 4
theorem d_Ref_showSlave_279 : decode (jm_cod M_Ref_showSlave) 279 = .ok (.if_icmp .ge 7, 3) := dt_Ref_showSlave_c7 5
theorem d_Ref_showSlave_282 : decode (jm_cod M_Ref_showSlave) 282 = .ok (.iconst 1, 1) := dt_Ref_showSlave_c7 6
theorem d_Ref_showSlave_283 : decode (jm_cod M_Ref_showSlave) 283 = .ok (.goto 4, 3) := dt_Ref_showSlave_c7 7
theorem d_Ref_showSlave_286 : decode (jm_cod M_Ref_showSlave) 286 = .ok (.iconst 0, 1) := dt_Ref_showSlave_c7 8
theorem d_Ref_showSlave_287 : decode (jm_cod M_Ref_showSlave) 287 = .ok (.bastore, 1) := dt_Ref_showSlave_c7 9
theorem d_Ref_showSlave_288 : decode (jm_cod M_Ref_showSlave) 288 = .ok (.aload_n 0, 1) := dt_Ref_showSlave_c7 10
theorem d_Ref_showSlave_289 : decode (jm_cod M_Ref_showSlave) 289 = .ok (.getfield 100, 3) := dt_Ref_showSlave_c7 11
theorem d_Ref_showSlave_292 : decode (jm_cod M_Ref_showSlave) 292 = .ok (.iload_n 2, 1) := dt_Ref_showSlave_c7 12
theorem d_Ref_showSlave_293 : decode (jm_cod M_Ref_showSlave) 293 = .ok (.iconst 2, 1) := dt_Ref_showSlave_c7 13
theorem d_Ref_showSlave_294 : decode (jm_cod M_Ref_showSlave) 294 = .ok (.iadd, 1) := dt_Ref_showSlave_c7 14
theorem d_Ref_showSlave_295 : decode (jm_cod M_Ref_showSlave) 295 = .ok (.baload, 1) := dt_Ref_showSlave_c7 15
theorem d_Ref_showSlave_296 : decode (jm_cod M_Ref_showSlave) 296 = .ok (.ifCond .ne 50, 3) := dt_Ref_showSlave_c7 16
theorem d_Ref_showSlave_299 : decode (jm_cod M_Ref_showSlave) 299 = .ok (.aload_n 0, 1) := dt_Ref_showSlave_c7 17
theorem d_Ref_showSlave_300 : decode (jm_cod M_Ref_showSlave) 300 = .ok (.getfield 214, 3) := dt_Ref_showSlave_c7 18
theorem d_Ref_showSlave_303 : decode (jm_cod M_Ref_showSlave) 303 = .ok (.iload_n 1, 1) := dt_Ref_showSlave_c7 19
theorem d_Ref_showSlave_304 : decode (jm_cod M_Ref_showSlave) 304 = .ok (.aload_n 0, 1) := dt_Ref_showSlave_c7 20
theorem d_Ref_showSlave_305 : decode (jm_cod M_Ref_showSlave) 305 = .ok (.iload_n 1, 1) := dt_Ref_showSlave_c7 21
theorem d_Ref_showSlave_306 : decode (jm_cod M_Ref_showSlave) 306 = .ok (.invokevirtual 409, 3) := dt_Ref_showSlave_c7 22
theorem d_Ref_showSlave_309 : decode (jm_cod M_Ref_showSlave) 309 = .ok (.iastore, 1) := dt_Ref_showSlave_c7 23
def tab_Ref_showSlave_c8 : List (Nat × Instr × Nat) := [(310, .aload_n 0, 1), (311, .getfield 214, 3), (314, .iload_n 1, 1), (315, .aload_n 0, 1), (316, .getfield 16, 3), (319, .iconst 5, 1), (320, .iload_n 1, 1), (321, .imul, 1), (322, .iconst 2, 1), (323, .iadd, 1), (324, .iaload, 1), (325, .aload_n 0, 1), (326, .getfield 348, 3), (329, .invokestatic 351, 3), (332, .ifCond .eq 12, 3), (335, .aload_n 0, 1), (336, .getfield 214, 3), (339, .iload_n 1, 1), (340, .iaload, 1), (341, .goto 4, 3), (344, .iconst (-1), 1), (345, .iastore, 1), (346, .aload_n 0, 1), (347, .getfield 214, 3)]
theorem dt_Ref_showSlave_c8 (i : Nat) : decode (jm_cod M_Ref_showSlave) (tab_Ref_showSlave_c8.getD i (310, .aload_n 0, 1)).1 = .ok ((tab_Ref_showSlave_c8.getD i (310, .aload_n 0, 1)).2.1, (tab_Ref_showSlave_c8.getD i (310, .aload_n 0, 1)).2.2) := j_tab (by decide +kernel) i
theorem d_Ref_showSlave_310 : decode (jm_cod M_Ref_showSlave) 310 = .ok (.aload_n 0, 1) := dt_Ref_showSlave_c8 0
theorem d_Ref_showSlave_311 : decode (jm_cod M_Ref_showSlave) 311 = .ok (.getfield 214, 3) := dt_Ref_showSlave_c8 1
theorem d_Ref_showSlave_314 : decode (jm_cod M_Ref_showSlave) 314 = .ok (.iload_n 1, 1) := dt_Ref_showSlave_c8 2
theorem d_Ref_showSlave_315 : decode (jm_cod M_Ref_showSlave) 315 = .ok (.aload_n 0, 1) := dt_Ref_showSlave_c8 3
theorem d_Ref_showSlave_316 : decode (jm_cod M_Ref_showSlave) 316 = .ok (.getfield 16, 3) := dt_Ref_showSlave_c8 4
theorem d_Ref_showSlave_319 : decode (jm_cod M_Ref_showSlave) 319 = .ok (.iconst 5, 1) := dt_Ref_showSlave_c8 5
theorem d_Ref_showSlave_320 : decode (jm_cod M_Ref_showSlave) 320 = .ok (.iload_n 1, 1) := dt_Ref_showSlave_c8 6
theorem d_Ref_showSlave_321 : decode (jm_cod M_Ref_showSlave) 321 = .ok (.imul, 1) := dt_Ref_showSlave_c8 7
theorem d_Ref_showSlave_322 : decode (jm_cod M_Ref_showSlave) 322 = .ok (.iconst 2, 1) := dt_Ref_showSlave_c8 8
theorem d_Ref_showSlave_323 : decode (jm_cod M_Ref_showSlave) 323 = .ok (.iadd, 1) := dt_Ref_showSlave_c8 9
theorem d_Ref_showSlave_324 : decode (jm_cod M_Ref_showSlave) 324 = .ok (.iaload, 1) := dt_Ref_showSlave_c8 10
theorem d_Ref_showSlave_325 : decode (jm_cod M_Ref_showSlave) 325 = .ok (.aload_n 0, 1) := dt_Ref_showSlave_c8 11
theorem d_Ref_showSlave_326 : decode (jm_cod M_Ref_showSlave) 326 = .ok (.getfield 348, 3) := dt_Ref_showSlave_c8 12
theorem d_Ref_showSlave_329 : decode (jm_cod M_Ref_showSlave) 329 = .ok (.invokestatic 351, 3) := dt_Ref_showSlave_c8 13
theorem d_Ref_showSlave_332 : decode (jm_cod M_Ref_showSlave) 332 = .ok (.ifCond .eq 12, 3) := dt_Ref_showSlave_c8 14
theorem d_Ref_showSlave_335 : decode (jm_cod M_Ref_showSlave) 335 = .ok (.aload_n 0, 1) := dt_Ref_showSlave_c8 15
theorem d_Ref_showSlave_336 : decode (jm_cod M_Ref_showSlave) 336 = .ok (.getfield 214, 3) := dt_Ref_showSlave_c8 16
theorem d_Ref_showSlave_339 : decode (jm_cod M_Ref_showSlave) 339 = .ok (.iload_n 1, 1) := dt_Ref_showSlave_c8 17
theorem d_Ref_showSlave_340 : decode (jm_cod M_Ref_showSlave) 340 = .ok (.iaload, 1) := dt_Ref_showSlave_c8 18
theorem d_Ref_showSlave_341 : decode (jm_cod M_Ref_showSlave) 341 = .ok (.goto 4, 3) := dt_Ref_showSlave_c8 19
theorem d_Ref_showSlave_344 : decode (jm_cod M_Ref_showSlave) 344 = .ok (.iconst (-1), 1) := dt_Ref_showSlave_c8 20
theorem d_Ref_showSlave_345 : decode (jm_cod M_Ref_showSlave) 345 = .ok (.iastore, 1) := dt_Ref_showSlave_c8 21
theorem d_Ref_showSlave_346 : decode (jm_cod M_Ref_showSlave) 346 = .ok (.aload_n 0, 1) := dt_Ref_showSlave_c8 22
theorem d_Ref_showSlave_347 : decode (jm_cod M_Ref_showSlave) 347 = .ok (.getfield 214, 3) := dt_Ref_showSlave_c8 23
def tab_Ref_showSlave_c9 : List (Nat × Instr × Nat) := [(350, .iload_n 1, 1), (351, .iaload, 1), (352, .istore 4, 2), (354, .aload_n 0, 1), (355, .iload_n 2, 1), (356, .iconst 2, 1), (357, .iadd, 1), (358, .iload 4, 2), (360, .iconst (-1), 1), (361, .if_icmp .eq 7, 3), (364, .iconst 1, 1), (365, .goto 4, 3), (368, .iconst 0, 1), (369, .lconst 0, 1), (370, .iload 4, 2), (372, .iconst (-1), 1), (373, .if_icmp .ne 7, 3), (376, .iconst 0, 1), (377, .goto 24, 3), (380, .aload_n 0, 1), (381, .getfield 163, 3), (384, .iload 4, 2), (386, .laload, 1), (387, .invokestatic 396, 3)]
theorem dt_Ref_showSlave_c9 (i : Nat) : decode (jm_cod M_Ref_showSlave) (tab_Ref_showSlave_c9.getD i (350, .iload_n 1, 1)).1 = .ok ((tab_Ref_showSlave_c9.getD i (350, .iload_n 1, 1)).2.1, (tab_Ref_showSlave_c9.getD i (350, .iload_n 1, 1)).2.2) := j_tab (by decide +kernel) i
theorem d_Ref_showSlave_350 : decode (jm_cod M_Ref_showSlave) 350 = .ok (.iload_n 1, 1) := dt_Ref_showSlave_c9 0
theorem d_Ref_showSlave_351 : decode (jm_cod M_Ref_showSlave) 351 = .ok (.iaload, 1) := dt_Ref_showSlave_c9 1
theorem d_Ref_showSlave_352 : decode (jm_cod M_Ref_showSlave) 352 = .ok (.istore 4, 2) := dt_Ref_showSlave_c9 2
theorem d_Ref_showSlave_354 : decode (jm_cod M_Ref_showSlave) 354 = .ok (.aload_n 0, 1) := dt_Ref_showSlave_c9 3
theorem d_Ref_showSlave_355 : decode (jm_cod M_Ref_showSlave) 355 = .ok (.iload_n 2, 1) := dt_Ref_showSlave_c9 4
theorem d_Ref_showSlave_356 : decode (jm_cod M_Ref_showSlave) 356 = .ok (.iconst 2, 1) := dt_Ref_showSlave_c9 5
theorem d_Ref_showSlave_357 : decode (jm_cod M_Ref_showSlave) 357 = .ok (.iadd, 1) := dt_Ref_showSlave_c9 6
theorem d_Ref_showSlave_358 : decode (jm_cod M_Ref_showSlave) 358 = .ok (.iload 4, 2) := dt_Ref_showSlave_c9 7
theorem d_Ref_showSlave_360 : decode (jm_cod M_Ref_showSlave) 360 = .ok (.iconst (-1), 1) := dt_Ref_showSlave_c9 8
theorem d_Ref_showSlave_361 : decode (jm_cod M_Ref_showSlave) 361 = .ok (.if_icmp .eq 7, 3) := dt_Ref_showSlave_c9 9
theorem d_Ref_showSlave_364 : decode (jm_cod M_Ref_showSlave) 364 = .ok (.iconst 1, 1) := dt_Ref_showSlave_c9 10
theorem d_Ref_showSlave_365 : decode (jm_cod M_Ref_showSlave) 365 = .ok (.goto 4, 3) := dt_Ref_showSlave_c9 11
theorem d_Ref_showSlave_368 : decode (jm_cod M_Ref_showSlave) 368 = .ok (.iconst 0, 1) := dt_Ref_showSlave_c9 12
theorem d_Ref_showSlave_369 : decode (jm_cod M_Ref_showSlave) 369 = .ok (.lconst 0, 1) := dt_Ref_showSlave_c9 13
theorem d_Ref_showSlave_370 : decode (jm_cod M_Ref_showSlave) 370 = .ok (.iload 4, 2) := dt_Ref_showSlave_c9 14
theorem d_Ref_showSlave_372 : decode (jm_cod M_Ref_showSlave) 372 = .ok (.iconst (-1), 1) := dt_Ref_showSlave_c9 15
theorem d_Ref_showSlave_373 : decode (jm_cod M_Ref_showSlave) 373 = .ok (.if_icmp .ne 7, 3) := dt_Ref_showSlave_c9 16
theorem d_Ref_showSlave_376 : decode (jm_cod M_Ref_showSlave) 376 = .ok (.iconst 0, 1) := dt_Ref_showSlave_c9 17
theorem d_Ref_showSlave_377 : decode (jm_cod M_Ref_showSlave) 377 = .ok (.goto 24, 3) := dt_Ref_showSlave_c9 18
theorem d_Ref_showSlave_380 : decode (jm_cod M_Ref_showSlave) 380 = .ok (.aload_n 0, 1) := dt_Ref_showSlave_c9 19
theorem d_Ref_showSlave_381 : decode (jm_cod M_Ref_showSlave) 381 = .ok (.getfield 163, 3) := dt_Ref_showSlave_c9 20
theorem d_Ref_showSlave_384 : decode (jm_cod M_Ref_showSlave) 384 = .ok (.iload 4, 2) := dt_Ref_showSlave_c9 21
theorem d_Ref_showSlave_386 : decode (jm_cod M_Ref_showSlave) 386 = .ok (.laload, 1) := dt_Ref_showSlave_c9 22
theorem d_Ref_showSlave_387 : decode (jm_cod M_Ref_showSlave) 387 = .ok (.invokestatic 396, 3) := dt_Ref_showSlave_c9 23
def tab_Ref_showSlave_c10 : List (Nat × Instr × Nat) := [(390, .bipush 64, 2), (392, .aload_n 0, 1), (393, .getfield 172, 3), (396, .iload 4, 2), (398, .iaload, 1), (399, .imul, 1), (400, .iadd, 1), (401, .invokevirtual 359, 3), (404, .aload_n 0, 1), (405, .getfield 100, 3), (408, .iload_n 2, 1), (409, .iconst 4, 1), (410, .iadd, 1), (411, .baload, 1), (412, .ifCond .ne 50, 3), (415, .aload_n 0, 1), (416, .getfield 217, 3), (419, .iload_n 1, 1), (420, .aload_n 0, 1), (421, .iload_n 1, 1), (422, .invokevirtual 412, 3), (425, .iastore, 1), (426, .aload_n 0, 1), (427, .getfield 217, 3)]
theorem dt_Ref_showSlave_c10 (i : Nat) : decode (jm_cod M_Ref_showSlave) (tab_Ref_showSlave_c10.getD i (390, .bipush 64, 2)).1 = .ok ((tab_Ref_showSlave_c10.getD i (390, .bipush 64, 2)).2.1, (tab_Ref_showSlave_c10.getD i (390, .bipush 64, 2)).2.2) := j_tab (by decide +kernel) i
theorem d_Ref_showSlave_390 : decode (jm_cod M_Ref_showSlave) 390 = .ok (.bipush 64, 2) := dt_Ref_showSlave_c10 0
theorem d_Ref_showSlave_392 : decode (jm_cod M_Ref_showSlave) 392 = .ok (.aload_n 0, 1) := dt_Ref_showSlave_c10 1
theorem d_Ref_showSlave_393 : decode (jm_cod M_Ref_showSlave) 393 = .ok (.getfield 172, 3) := dt_Ref_showSlave_c10 2
theorem d_Ref_showSlave_396 : decode (jm_cod M_Ref_showSlave) 396 = .ok (.iload 4, 2) := dt_Ref_showSlave_c10 3
theorem d_Ref_showSlave_398 : decode (jm_cod M_Ref_showSlave) 398 = .ok (.iaload, 1) := dt_Ref_showSlave_c10 4
theorem d_Ref_showSlave_399 : decode (jm_cod M_Ref_showSlave) 399 = .ok (.imul, 1) := dt_Ref_showSlave_c10 5
theorem d_Ref_showSlave_400 : decode (jm_cod M_Ref_showSlave) 400 = .ok (.iadd, 1) := dt_Ref_showSlave_c10 6
theorem d_Ref_showSlave_401 : decode (jm_cod M_Ref_showSlave) 401 = .ok (.invokevirtual 359, 3) := dt_Ref_showSlave_c10 7
theorem d_Ref_showSlave_404 : decode (jm_cod M_Ref_showSlave) 404 = .ok (.aload_n 0, 1) := dt_Ref_showSlave_c10 8
theorem d_Ref_showSlave_405 : decode (jm_cod M_Ref_showSlave) 405 = .ok (.getfield 100, 3) := dt_Ref_showSlave_c10 9
theorem d_Ref_showSlave_408 : decode (jm_cod M_Ref_showSlave) 408 = .ok (.iload_n 2, 1) := dt_Ref_showSlave_c10 10
theorem d_Ref_showSlave_409 : decode (jm_cod M_Ref_showSlave) 409 = .ok (.iconst 4, 1) := dt_Ref_showSlave_c10 11
theorem d_Ref_showSlave_410 : decode (jm_cod M_Ref_showSlave) 410 = .ok (.iadd, 1) := dt_Ref_showSlave_c10 12
theorem d_Ref_showSlave_411 : decode (jm_cod M_Ref_showSlave) 411 = .ok (.baload, 1) := dt_Ref_showSlave_c10 13
theorem d_Ref_showSlave_412 : decode (jm_cod M_Ref_showSlave) 412 = .ok (.ifCond .ne 50, 3) := dt_Ref_showSlave_c10 14
theorem d_Ref_showSlave_415 : decode (jm_cod M_Ref_showSlave) 415 = .ok (.aload_n 0, 1) := dt_Ref_showSlave_c10 15
theorem d_Ref_showSlave_416 : decode (jm_cod M_Ref_showSlave) 416 = .ok (.getfield 217, 3) := dt_Ref_showSlave_c10 16
theorem d_Ref_showSlave_419 : decode (jm_cod M_Ref_showSlave) 419 = .ok (.iload_n 1, 1) := dt_Ref_showSlave_c10 17
theorem d_Ref_showSlave_420 : decode (jm_cod M_Ref_showSlave) 420 = .ok (.aload_n 0, 1) := dt_Ref_showSlave_c10 18
theorem d_Ref_showSlave_421 : decode (jm_cod M_Ref_showSlave) 421 = .ok (.iload_n 1, 1) := dt_Ref_showSlave_c10 19
theorem d_Ref_showSlave_422 : decode (jm_cod M_Ref_showSlave) 422 = .ok (.invokevirtual 412, 3) := dt_Ref_showSlave_c10 20
theorem d_Ref_showSlave_425 : decode (jm_cod M_Ref_showSlave) 425 = .ok (.iastore, 1) := dt_Ref_showSlave_c10 21
theorem d_Ref_showSlave_426 : decode (jm_cod M_Ref_showSlave) 426 = .ok (.aload_n 0, 1) := dt_Ref_showSlave_c10 22
theorem d_Ref_showSlave_427 : decode (jm_cod M_Ref_showSlave) 427 = .ok (.getfield 217, 3) := dt_Ref_showSlave_c10 23
def tab_Ref_showSlave_c11 : List (Nat × Instr × Nat) := [(430, .iload_n 1, 1), (431, .aload_n 0, 1), (432, .getfield 16, 3), (435, .iconst 5, 1), (436, .iload_n 1, 1), (437, .imul, 1), (438, .iconst 4, 1), (439, .iadd, 1), (440, .iaload, 1), (441, .aload_n 0, 1), (442, .getfield 348, 3), (445, .invokestatic 351, 3), (448, .ifCond .eq 12, 3), (451, .aload_n 0, 1), (452, .getfield 217, 3), (455, .iload_n 1, 1), (456, .iaload, 1), (457, .goto 4, 3), (460, .iconst (-1), 1), (461, .iastore, 1), (462, .aload_n 0, 1), (463, .getfield 217, 3), (466, .iload_n 1, 1), (467, .iaload, 1)]
theorem dt_Ref_showSlave_c11 (i : Nat) : decode (jm_cod M_Ref_showSlave) (tab_Ref_showSlave_c11.getD i (430, .iload_n 1, 1)).1 = .ok ((tab_Ref_showSlave_c11.getD i (430, .iload_n 1, 1)).2.1, (tab_Ref_showSlave_c11.getD i (430, .iload_n 1, 1)).2.2) := j_tab (by decide +kernel) i
theorem d_Ref_showSlave_430 : decode (jm_cod M_Ref_showSlave) 430 = .ok (.iload_n 1, 1) := dt_Ref_showSlave_c11 0
theorem d_Ref_showSlave_431 : decode (jm_cod M_Ref_showSlave) 431 = .ok (.aload_n 0, 1) := dt_Ref_showSlave_c11 1
theorem d_Ref_showSlave_432 : decode (jm_cod M_Ref_showSlave) 432 = .ok (.getfield 16, 3) := dt_Ref_showSlave_c11 2
theorem d_Ref_showSlave_435 : decode (jm_cod M_Ref_showSlave) 435 = .ok (.iconst 5, 1) := dt_Ref_showSlave_c11 3
theorem d_Ref_showSlave_436 : decode (jm_cod M_Ref_showSlave) 436 = .ok (.iload_n 1, 1) := dt_Ref_showSlave_c11 4
theorem d_Ref_showSlave_437 : decode (jm_cod M_Ref_showSlave) 437 = .ok (.imul, 1) := dt_Ref_showSlave_c11 5
theorem d_Ref_showSlave_438 : decode (jm_cod M_Ref_showSlave) 438 = .ok (.iconst 4, 1) := dt_Ref_showSlave_c11 6
theorem d_Ref_showSlave_439 : decode (jm_cod M_Ref_showSlave) 439 = .ok (.iadd, 1) := dt_Ref_showSlave_c11 7
theorem d_Ref_showSlave_440 : decode (jm_cod M_Ref_showSlave) 440 = .ok (.iaload, 1) := dt_Ref_showSlave_c11 8
theorem d_Ref_showSlave_441 : decode (jm_cod M_Ref_showSlave) 441 = .ok (.aload_n 0, 1) := dt_Ref_showSlave_c11 9
theorem d_Ref_showSlave_442 : decode (jm_cod M_Ref_showSlave) 442 = .ok (.getfield 348, 3) := dt_Ref_showSlave_c11 10
theorem d_Ref_showSlave_445 : decode (jm_cod M_Ref_showSlave) 445 = .ok (.invokestatic 351, 3) := dt_Ref_showSlave_c11 11
theorem d_Ref_showSlave_448 : decode (jm_cod M_Ref_showSlave) 448 = .ok (.ifCond .eq 12, 3) := dt_Ref_showSlave_c11 12
theorem d_Ref_showSlave_451 : decode (jm_cod M_Ref_showSlave) 451 = .ok (.aload_n 0, 1) := dt_Ref_showSlave_c11 13
theorem d_Ref_showSlave_452 : decode (jm_cod M_Ref_showSlave) 452 = .ok (.getfield 217, 3) := dt_Ref_showSlave_c11 14
theorem d_Ref_showSlave_455 : decode (jm_cod M_Ref_showSlave) 455 = .ok (.iload_n 1, 1) := dt_Ref_showSlave_c11 15
theorem d_Ref_showSlave_456 : decode (jm_cod M_Ref_showSlave) 456 = .ok (.iaload, 1) := dt_Ref_showSlave_c11 16
theorem d_Ref_showSlave_457 : decode (jm_cod M_Ref_showSlave) 457 = .ok (.goto 4, 3) := dt_Ref_showSlave_c11 17
theorem d_Ref_showSlave_460 : decode (jm_cod M_Ref_showSlave) 460 = .ok (.iconst (-1), 1) := dt_Ref_showSlave_c11 18
theorem d_Ref_showSlave_461 : decode (jm_cod M_Ref_showSlave) 461 = .ok (.iastore, 1) := dt_Ref_showSlave_c11 19
theorem d_Ref_showSlave_462 : decode (jm_cod M_Ref_showSlave) 462 = .ok (.aload_n 0, 1) := dt_Ref_showSlave_c11 20
theorem d_Ref_showSlave_463 : decode (jm_cod M_Ref_showSlave) 463 = .ok (.getfield 217, 3) := dt_Ref_showSlave_c11 21
theorem d_Ref_showSlave_466 : decode (jm_cod M_Ref_showSlave) 466 = .ok (.iload_n 1, 1) := dt_Ref_showSlave_c11 22
theorem d_Ref_showSlave_467 : decode (jm_cod M_Ref_showSlave) 467 = .ok (.iaload, 1) := dt_Ref_showSlave_c11 23
def tab_Ref_showSlave_c12 : List (Nat × Instr × Nat) := [(468, .istore 5, 2), (470, .iload 5, 2), (472, .iconst (-1), 1), (473, .if_icmp .ne 14, 3), (476, .aload_n 0, 1), (477, .iload_n 2, 1), (478, .iconst 4, 1), (479, .iadd, 1), (480, .iconst 0, 1), (481, .lconst 0, 1), (482, .iconst 0, 1), (483, .invokevirtual 359, 3), (486, .return_, 1), (487, .aload_n 0, 1), (488, .getfield 193, 3), (491, .iload 5, 2), (493, .iaload, 1), (494, .istore 6, 2), (496, .iload 6, 2), (498, .aload_n 0, 1), (499, .getfield 190, 3), (502, .iload 5, 2), (504, .laload, 1), (505, .invokestatic 321, 3)]
theorem dt_Ref_showSlave_c12 (i : Nat) : decode (jm_cod M_Ref_showSlave) (tab_Ref_showSlave_c12.getD i (468, .istore 5, 2)).1 = .ok ((tab_Ref_showSlave_c12.getD i (468, .istore 5, 2)).2.1, (tab_Ref_showSlave_c12.getD i (468, .istore 5, 2)).2.2) := j_tab (by decide +kernel) i
theorem d_Ref_showSlave_468 : decode (jm_cod M_Ref_showSlave) 468 = .ok (.istore 5, 2) := dt_Ref_showSlave_c12 0
theorem d_Ref_showSlave_470 : decode (jm_cod M_Ref_showSlave) 470 = .ok (.iload 5, 2) := dt_Ref_showSlave_c12 1
theorem d_Ref_showSlave_472 : decode (jm_cod M_Ref_showSlave) 472 = .ok (.iconst (-1), 1) := dt_Ref_showSlave_c12 2
theorem d_Ref_showSlave_473 : decode (jm_cod M_Ref_showSlave) 473 = .ok (.if_icmp .ne 14, 3) := dt_Ref_showSlave_c12 3
theorem d_Ref_showSlave_476 : decode (jm_cod M_Ref_showSlave) 476 = .ok (.aload_n 0, 1) := dt_Ref_showSlave_c12 4
theorem d_Ref_showSlave_477 : decode (jm_cod M_Ref_showSlave) 477 = .ok (.iload_n 2, 1) := dt_Ref_showSlave_c12 5
theorem d_Ref_showSlave_478 : decode (jm_cod M_Ref_showSlave) 478 = .ok (.iconst 4, 1) := dt_Ref_showSlave_c12 6
theorem d_Ref_showSlave_479 : decode (jm_cod M_Ref_showSlave) 479 = .ok (.iadd, 1) := dt_Ref_showSlave_c12 7
theorem d_Ref_showSlave_480 : decode (jm_cod M_Ref_showSlave) 480 = .ok (.iconst 0, 1) := dt_Ref_showSlave_c12 8
theorem d_Ref_showSlave_481 : decode (jm_cod M_Ref_showSlave) 481 = .ok (.lconst 0, 1) := dt_Ref_showSlave_c12 9
theorem d_Ref_showSlave_482 : decode (jm_cod M_Ref_showSlave) 482 = .ok (.iconst 0, 1) := dt_Ref_showSlave_c12 10
theorem d_Ref_showSlave_483 : decode (jm_cod M_Ref_showSlave) 483 = .ok (.invokevirtual 359, 3) := dt_Ref_showSlave_c12 11
theorem d_Ref_showSlave_486 : decode (jm_cod M_Ref_showSlave) 486 = .ok (.return_, 1) := dt_Ref_showSlave_c12 12
theorem d_Ref_showSlave_487 : decode (jm_cod M_Ref_showSlave) 487 = .ok (.aload_n 0, 1) := dt_Ref_showSlave_c12 13
theorem d_Ref_showSlave_488 : decode (jm_cod M_Ref_showSlave) 488 = .ok (.getfield 193, 3) := dt_Ref_showSlave_c12 14
theorem d_Ref_showSlave_491 : decode (jm_cod M_Ref_showSlave) 491 = .ok (.iload 5, 2) := dt_Ref_showSlave_c12 15
theorem d_Ref_showSlave_493 : decode (jm_cod M_Ref_showSlave) 493 = .ok (.iaload, 1) := dt_Ref_showSlave_c12 16
theorem d_Ref_showSlave_494 : decode (jm_cod M_Ref_showSlave) 494 = .ok (.istore 6, 2) := dt_Ref_showSlave_c12 17
theorem d_Ref_showSlave_496 : decode (jm_cod M_Ref_showSlave) 496 = .ok (.iload 6, 2) := dt_Ref_showSlave_c12 18
theorem d_Ref_showSlave_498 : decode (jm_cod M_Ref_showSlave) 498 = .ok (.aload_n 0, 1) := dt_Ref_showSlave_c12 19
theorem d_Ref_showSlave_499 : decode (jm_cod M_Ref_showSlave) 499 = .ok (.getfield 190, 3) := dt_Ref_showSlave_c12 20
theorem d_Ref_showSlave_502 : decode (jm_cod M_Ref_showSlave) 502 = .ok (.iload 5, 2) := dt_Ref_showSlave_c12 21
theorem d_Ref_showSlave_504 : decode (jm_cod M_Ref_showSlave) 504 = .ok (.laload, 1) := dt_Ref_showSlave_c12 22
theorem d_Ref_showSlave_505 : decode (jm_cod M_Ref_showSlave) 505 = .ok (.invokestatic 321, 3) := dt_Ref_showSlave_c12 23
def tab_Ref_showSlave_c13 : List (Nat × Instr × Nat) := [(508, .iconst 1, 1), (509, .isub, 1), (510, .if_icmp .ne 7, 3), (513, .iconst 1, 1), (514, .goto 4, 3), (517, .iconst 0, 1), (518, .istore 7, 2), (520, .aload_n 0, 1), (521, .iload_n 2, 1), (522, .iconst 4, 1), (523, .iadd, 1), (524, .iconst 1, 1), (525, .aload_n 0, 1), (526, .getfield 202, 3), (529, .bipush 16, 2), (531, .iload 5, 2), (533, .imul, 1), (534, .iload 6, 2), (536, .iadd, 1), (537, .laload, 1), (538, .aload_n 0, 1), (539, .getfield 190, 3), (542, .iload 5, 2), (544, .laload, 1)]
theorem dt_Ref_showSlave_c13 (i : Nat) : decode (jm_cod M_Ref_showSlave) (tab_Ref_showSlave_c13.getD i (508, .iconst 1, 1)).1 = .ok ((tab_Ref_showSlave_c13.getD i (508, .iconst 1, 1)).2.1, (tab_Ref_showSlave_c13.getD i (508, .iconst 1, 1)).2.2) := j_tab (by decide +kernel) i
theorem d_Ref_showSlave_508 : decode (jm_cod M_Ref_showSlave) 508 = .ok (.iconst 1, 1) := dt_Ref_showSlave_c13 0
theorem d_Ref_showSlave_509 : decode (jm_cod M_Ref_showSlave) 509 = .ok (.isub, 1) := dt_Ref_showSlave_c13 1
theorem d_Ref_showSlave_510 : decode (jm_cod M_Ref_showSlave) 510 = .ok (.if_icmp .ne 7, 3) := dt_Ref_showSlave_c13 2
theorem d_Ref_showSlave_513 : decode (jm_cod M_Ref_showSlave) 513 = .ok (.iconst 1, 1) := dt_Ref_showSlave_c13 3
theorem d_Ref_showSlave_514 : decode (jm_cod M_Ref_showSlave) 514 = .ok (.goto 4, 3) := dt_Ref_showSlave_c13 4
theorem d_Ref_showSlave_517 : decode (jm_cod M_Ref_showSlave) 517 = .ok (.iconst 0, 1) := dt_Ref_showSlave_c13 5
theorem d_Ref_showSlave_518 : decode (jm_cod M_Ref_showSlave) 518 = .ok (.istore 7, 2) := dt_Ref_showSlave_c13 6
theorem d_Ref_showSlave_520 : decode (jm_cod M_Ref_showSlave) 520 = .ok (.aload_n 0, 1) := dt_Ref_showSlave_c13 7
theorem d_Ref_showSlave_521 : decode (jm_cod M_Ref_showSlave) 521 = .ok (.iload_n 2, 1) := dt_Ref_showSlave_c13 8
theorem d_Ref_showSlave_522 : decode (jm_cod M_Ref_showSlave) 522 = .ok (.iconst 4, 1) := dt_Ref_showSlave_c13 9
theorem d_Ref_showSlave_523 : decode (jm_cod M_Ref_showSlave) 523 = .ok (.iadd, 1) := dt_Ref_showSlave_c13 10
theorem d_Ref_showSlave_524 : decode (jm_cod M_Ref_showSlave) 524 = .ok (.iconst 1, 1) := dt_Ref_showSlave_c13 11
theorem d_Ref_showSlave_525 : decode (jm_cod M_Ref_showSlave) 525 = .ok (.aload_n 0, 1) := dt_Ref_showSlave_c13 12
theorem d_Ref_showSlave_526 : decode (jm_cod M_Ref_showSlave) 526 = .ok (.getfield 202, 3) := dt_Ref_showSlave_c13 13
theorem d_Ref_showSlave_529 : decode (jm_cod M_Ref_showSlave) 529 = .ok (.bipush 16, 2) := dt_Ref_showSlave_c13 14
theorem d_Ref_showSlave_531 : decode (jm_cod M_Ref_showSlave) 531 = .ok (.iload 5, 2) := dt_Ref_showSlave_c13 15
theorem d_Ref_showSlave_533 : decode (jm_cod M_Ref_showSlave) 533 = .ok (.imul, 1) := dt_Ref_showSlave_c13 16
theorem d_Ref_showSlave_534 : decode (jm_cod M_Ref_showSlave) 534 = .ok (.iload 6, 2) := dt_Ref_showSlave_c13 17
theorem d_Ref_showSlave_536 : decode (jm_cod M_Ref_showSlave) 536 = .ok (.iadd, 1) := dt_Ref_showSlave_c13 18
theorem d_Ref_showSlave_537 : decode (jm_cod M_Ref_showSlave) 537 = .ok (.laload, 1) := dt_Ref_showSlave_c13 19
theorem d_Ref_showSlave_538 : decode (jm_cod M_Ref_showSlave) 538 = .ok (.aload_n 0, 1) := dt_Ref_showSlave_c13 20
theorem d_Ref_showSlave_539 : decode (jm_cod M_Ref_showSlave) 539 = .ok (.getfield 190, 3) := dt_Ref_showSlave_c13 21
theorem d_Ref_showSlave_542 : decode (jm_cod M_Ref_showSlave) 542 = .ok (.iload 5, 2) := dt_Ref_showSlave_c13 22
theorem d_Ref_showSlave_544 : decode (jm_cod M_Ref_showSlave) 544 = .ok (.laload, 1) := dt_Ref_showSlave_c13 23
def tab_Ref_showSlave_c14 : List (Nat × Instr × Nat) := [(545, .invokestatic 396, 3), (548, .bipush 64, 2), (550, .aload_n 0, 1), (551, .getfield 205, 3), (554, .bipush 16, 2), (556, .iload 5, 2), (558, .imul, 1), (559, .iload 6, 2), (561, .iadd, 1), (562, .iaload, 1), (563, .imul, 1), (564, .iadd, 1), (565, .iload 7, 2), (567, .ifCond .eq 9, 3), (570, .sipush 256, 3), (573, .goto 4, 3), (576, .iconst 0, 1), (577, .iadd, 1), (578, .invokevirtual 359, 3), (581, .return_, 1)]
theorem dt_Ref_showSlave_c14 (i : Nat) : decode (jm_cod M_Ref_showSlave) (tab_Ref_showSlave_c14.getD i (545, .invokestatic 396, 3)).1 = .ok ((tab_Ref_showSlave_c14.getD i (545, .invokestatic 396, 3)).2.1, (tab_Ref_showSlave_c14.getD i (545, .invokestatic 396, 3)).2.2) := j_tab (by decide +kernel) i
theorem d_Ref_showSlave_545 : decode (jm_cod M_Ref_showSlave) 545 = .ok (.invokestatic 396, 3) := dt_Ref_showSlave_c14 0
theorem d_Ref_showSlave_548 : decode (jm_cod M_Ref_showSlave) 548 = .ok (.bipush 64, 2) := dt_Ref_showSlave_c14 1
theorem d_Ref_showSlave_550 : decode (jm_cod M_Ref_showSlave) 550 = .ok (.aload_n 0, 1) := dt_Ref_showSlave_c14 2
theorem d_Ref_showSlave_551 : decode (jm_cod M_Ref_showSlave) 551 = .ok (.getfield 205, 3) := dt_Ref_showSlave_c14 3
theorem d_Ref_showSlave_554 : decode (jm_cod M_Ref_showSlave) 554 = .ok (.bipush 16, 2) := dt_Ref_showSlave_c14 4
theorem d_Ref_showSlave_556 : decode (jm_cod M_Ref_showSlave) 556 = .ok (.iload 5, 2) := dt_Ref_showSlave_c14 5
theorem d_Ref_showSlave_558 : decode (jm_cod M_Ref_showSlave) 558 = .ok (.imul, 1) := dt_Ref_showSlave_c14 6
theorem d_Ref_showSlave_559 : decode (jm_cod M_Ref_showSlave) 559 = .ok (.iload 6, 2) := dt_Ref_showSlave_c14 7
theorem d_Ref_showSlave_561 : decode (jm_cod M_Ref_showSlave) 561 = .ok (.iadd, 1) := dt_Ref_showSlave_c14 8
theorem d_Ref_showSlave_562 : decode (jm_cod M_Ref_showSlave) 562 = .ok (.iaload, 1) := dt_Ref_showSlave_c14 9
theorem d_Ref_showSlave_563 : decode (jm_cod M_Ref_showSlave) 563 = .ok (.imul, 1) := dt_Ref_showSlave_c14 10
theorem d_Ref_showSlave_564 : decode (jm_cod M_Ref_showSlave) 564 = .ok (.iadd, 1) := dt_Ref_showSlave_c14 11
theorem d_Ref_showSlave_565 : decode (jm_cod M_Ref_showSlave) 565 = .ok (.iload 7, 2) := dt_Ref_showSlave_c14 12
theorem d_Ref_showSlave_567 : decode (jm_cod M_Ref_showSlave) 567 = .ok (.ifCond .eq 9, 3) := dt_Ref_showSlave_c14 13
theorem d_Ref_showSlave_570 : decode (jm_cod M_Ref_showSlave) 570 = .ok (.sipush 256, 3) := dt_Ref_showSlave_c14 14
theorem d_Ref_showSlave_573 : decode (jm_cod M_Ref_showSlave) 573 = .ok (.goto 4, 3) := dt_Ref_showSlave_c14 15
theorem d_Ref_showSlave_576 : decode (jm_cod M_Ref_showSlave) 576 = .ok (.iconst 0, 1) := dt_Ref_showSlave_c14 16
theorem d_Ref_showSlave_577 : decode (jm_cod M_Ref_showSlave) 577 = .ok (.iadd, 1) := dt_Ref_showSlave_c14 17
theorem d_Ref_showSlave_578 : decode (jm_cod M_Ref_showSlave) 578 = .ok (.invokevirtual 359, 3) := dt_Ref_showSlave_c14 18
theorem d_Ref_showSlave_581 : decode (jm_cod M_Ref_showSlave) 581 = .ok (.return_, 1) := dt_Ref_showSlave_c14 19
def tab_Ref_chooseWrite_c0 : List (Nat × Instr × Nat) := [(0, .iconst (-1), 1), (1, .istore_n 2, 1), (2, .iconst 0, 1), (3, .istore_n 3, 1), (4, .iload_n 3, 1), (5, .aload_n 0, 1), (6, .getfield 154, 3), (9, .iload_n 1, 1), (10, .iaload, 1), (11, .if_icmp .ge 76, 3), (14, .aload_n 0, 1), (15, .getfield 157, 3), (18, .iconst 4, 1), (19, .iload_n 1, 1), (20, .imul, 1), (21, .iload_n 3, 1), (22, .iadd, 1), (23, .iaload, 1), (24, .istore 4, 2), (26, .aload_n 0, 1), (27, .iload 4, 2), (29, .iload_n 1, 1), (30, .invokevirtual 399, 3), (33, .ifCond .eq 33, 3)]
theorem dt_Ref_chooseWrite_c0 (i : Nat) : decode (jm_cod M_Ref_chooseWrite) (tab_Ref_chooseWrite_c0.getD i (0, .iconst (-1), 1)).1 = .ok ((tab_Ref_chooseWrite_c0.getD i (0, .iconst (-1), 1)).2.1, (tab_Ref_chooseWrite_c0.getD i (0, .iconst (-1), 1)).2.2) := j_tab (by decide +kernel) i
theorem d_Ref_chooseWrite_0 : decode (jm_cod M_Ref_chooseWrite) 0 = .ok (.iconst (-1), 1) := dt_Ref_chooseWrite_c0 0
theorem d_Ref_chooseWrite_1 : decode (jm_cod M_Ref_chooseWrite) 1 = .ok (.istore_n 2, 1) := dt_Ref_chooseWrite_c0 1
theorem d_Ref_chooseWrite_2 : decode (jm_cod M_Ref_chooseWrite) 2 = .ok (.iconst 0, 1) := dt_Ref_chooseWrite_c0 2
theorem d_Ref_chooseWrite_3 : decode (jm_cod M_Ref_chooseWrite) 3 = .ok (.istore_n 3, 1) := dt_Ref_chooseWrite_c0 3
theorem d_Ref_chooseWrite_4 : decode (jm_cod M_Ref_chooseWrite) 4 = .ok (.iload_n 3, 1) := dt_Ref_chooseWrite_c0 4
theorem d_Ref_chooseWrite_5 : decode (jm_cod M_Ref_chooseWrite) 5 = .ok (.aload_n 0, 1) := dt_Ref_chooseWrite_c0 5
theorem d_Ref_chooseWrite_6 : decode (jm_cod M_Ref_chooseWrite) 6 = .ok (.getfield 154, 3) := dt_Ref_chooseWrite_c0 6
theorem d_Ref_chooseWrite_9 : decode (jm_cod M_Ref_chooseWrite) 9 = .ok (.iload_n 1, 1) := dt_Ref_chooseWrite_c0 7
theorem d_Ref_chooseWrite_10 : decode (jm_cod M_Ref_chooseWrite) 10 = .ok (.iaload, 1) := dt_Ref_chooseWrite_c0 8
theorem d_Ref_chooseWrite_11 : decode (jm_cod M_Ref_chooseWrite) 11 = .ok (.if_icmp .ge 76, 3) := dt_Ref_chooseWrite_c0 9
theorem d_Ref_chooseWrite_14 : decode (jm_cod M_Ref_chooseWrite) 14 = .ok (.aload_n 0, 1) := dt_Ref_chooseWrite_c0 10
theorem d_Ref_chooseWrite_15 : decode (jm_cod M_Ref_chooseWrite) 15 = .ok (.getfield 157, 3) := dt_Ref_chooseWrite_c0 11
theorem d_Ref_chooseWrite_18 : decode (jm_cod M_Ref_chooseWrite) 18 = .ok (.iconst 4, 1) := dt_Ref_chooseWrite_c0 12
theorem d_Ref_chooseWrite_19 : decode (jm_cod M_Ref_chooseWrite) 19 = .ok (.iload_n 1, 1) := dt_Ref_chooseWrite_c0 13
theorem d_Ref_chooseWrite_20 : decode (jm_cod M_Ref_chooseWrite) 20 = .ok (.imul, 1) := dt_Ref_chooseWrite_c0 14
theorem d_Ref_chooseWrite_21 : decode (jm_cod M_Ref_chooseWrite) 21 = .ok (.iload_n 3, 1) := dt_Ref_chooseWrite_c0 15
theorem d_Ref_chooseWrite_22 : decode (jm_cod M_Ref_chooseWrite) 22 = .ok (.iadd, 1) := dt_Ref_chooseWrite_c0 16
theorem d_Ref_chooseWrite_23 : decode (jm_cod M_Ref_chooseWrite) 23 = .ok (.iaload, 1) := dt_Ref_chooseWrite_c0 17
theorem d_Ref_chooseWrite_24 : decode (jm_cod M_Ref_chooseWrite) 24 = .ok (.istore 4, 2) := dt_Ref_chooseWrite_c0 18
theorem d_Ref_chooseWrite_26 : decode (jm_cod M_Ref_chooseWrite) 26 = .ok (.aload_n 0, 1) := dt_Ref_chooseWrite_c0 19
theorem d_Ref_chooseWrite_27 : decode (jm_cod M_Ref_chooseWrite) 27 = .ok (.iload 4, 2) := dt_Ref_chooseWrite_c0 20
theorem d_Ref_chooseWrite_29 : decode (jm_cod M_Ref_chooseWrite) 29 = .ok (.iload_n 1, 1) := dt_Ref_chooseWrite_c0 21
theorem d_Ref_chooseWrite_30 : decode (jm_cod M_Ref_chooseWrite) 30 = .ok (.invokevirtual 399, 3) := dt_Ref_chooseWrite_c0 22
theorem d_Ref_chooseWrite_33 : decode (jm_cod M_Ref_chooseWrite) 33 = .ok (.ifCond .eq 33, 3) := dt_Ref_chooseWrite_c0 23
def tab_Ref_chooseWrite_c1 : List (Nat × Instr × Nat) := [(36, .aload_n 0, 1), (37, .getfield 26, 3), (40, .iload_n 1, 1), (41, .iaload, 1), (42, .ifCond .ne 10, 3), (45, .iload_n 3, 1), (46, .ifCond .ne 20, 3), (49, .goto 13, 3), (52, .aload_n 0, 1), (53, .iload_n 1, 1), (54, .iload_n 3, 1), (55, .iconst 1, 1), (56, .invokevirtual 402, 3), (59, .ifCond .eq 7, 3), (62, .iconst 1, 1), (63, .goto 4, 3), (66, .iconst 0, 1), (67, .istore 5, 2), (69, .iload 5, 2), (71, .ifCond .eq 8, 3), (74, .iload 4, 2), (76, .goto 4, 3), (79, .iload_n 2, 1), (80, .istore_n 2, 1)]
theorem dt_Ref_chooseWrite_c1 (i : Nat) : decode (jm_cod M_Ref_chooseWrite) (tab_Ref_chooseWrite_c1.getD i (36, .aload_n 0, 1)).1 = .ok ((tab_Ref_chooseWrite_c1.getD i (36, .aload_n 0, 1)).2.1, (tab_Ref_chooseWrite_c1.getD i (36, .aload_n 0, 1)).2.2) := j_tab (by decide +kernel) i
theorem d_Ref_chooseWrite_36 : decode (jm_cod M_Ref_chooseWrite) 36 = .ok (.aload_n 0, 1) := dt_Ref_chooseWrite_c1 0
theorem d_Ref_chooseWrite_37 : decode (jm_cod M_Ref_chooseWrite) 37 = .ok (.getfield 26, 3) := dt_Ref_chooseWrite_c1 1
theorem d_Ref_chooseWrite_40 : decode (jm_cod M_Ref_chooseWrite) 40 = .ok (.iload_n 1, 1) := dt_Ref_chooseWrite_c1 2
theorem d_Ref_chooseWrite_41 : decode (jm_cod M_Ref_chooseWrite) 41 = .ok (.iaload, 1) := dt_Ref_chooseWrite_c1 3
theorem d_Ref_chooseWrite_42 : decode (jm_cod M_Ref_chooseWrite) 42 = .ok (.ifCond .ne 10, 3) := dt_Ref_chooseWrite_c1 4
theorem d_Ref_chooseWrite_45 : decode (jm_cod M_Ref_chooseWrite) 45 = .ok (.iload_n 3, 1) := dt_Ref_chooseWrite_c1 5
theorem d_Ref_chooseWrite_46 : decode (jm_cod M_Ref_chooseWrite) 46 = .ok (.ifCond .ne 20, 3) := dt_Ref_chooseWrite_c1 6
theorem d_Ref_chooseWrite_49 : decode (jm_cod M_Ref_chooseWrite) 49 = .ok (.goto 13, 3) := dt_Ref_chooseWrite_c1 7
theorem d_Ref_chooseWrite_52 : decode (jm_cod M_Ref_chooseWrite) 52 = .ok (.aload_n 0, 1) := dt_Ref_chooseWrite_c1 8
theorem d_Ref_chooseWrite_53 : decode (jm_cod M_Ref_chooseWrite) 53 = .ok (.iload_n 1, 1) := dt_Ref_chooseWrite_c1 9
theorem d_Ref_chooseWrite_54 : decode (jm_cod M_Ref_chooseWrite) 54 = .ok (.iload_n 3, 1) := dt_Ref_chooseWrite_c1 10
theorem d_Ref_chooseWrite_55 : decode (jm_cod M_Ref_chooseWrite) 55 = .ok (.iconst 1, 1) := dt_Ref_chooseWrite_c1 11
theorem d_Ref_chooseWrite_56 : decode (jm_cod M_Ref_chooseWrite) 56 = .ok (.invokevirtual 402, 3) := dt_Ref_chooseWrite_c1 12
theorem d_Ref_chooseWrite_59 : decode (jm_cod M_Ref_chooseWrite) 59 = .ok (.ifCond .eq 7, 3) := dt_Ref_chooseWrite_c1 13
theorem d_Ref_chooseWrite_62 : decode (jm_cod M_Ref_chooseWrite) 62 = .ok (.iconst 1, 1) := dt_Ref_chooseWrite_c1 14
theorem d_Ref_chooseWrite_63 : decode (jm_cod M_Ref_chooseWrite) 63 = .ok (.goto 4, 3) := dt_Ref_chooseWrite_c1 15
theorem d_Ref_chooseWrite_66 : decode (jm_cod M_Ref_chooseWrite) 66 = .ok (.iconst 0, 1) := dt_Ref_chooseWrite_c1 16
theorem d_Ref_chooseWrite_67 : decode (jm_cod M_Ref_chooseWrite) 67 = .ok (.istore 5, 2) := dt_Ref_chooseWrite_c1 17
theorem d_Ref_chooseWrite_69 : decode (jm_cod M_Ref_chooseWrite) 69 = .ok (.iload 5, 2) := dt_Ref_chooseWrite_c1 18
theorem d_Ref_chooseWrite_71 : decode (jm_cod M_Ref_chooseWrite) 71 = .ok (.ifCond .eq 8, 3) := dt_Ref_chooseWrite_c1 19
theorem d_Ref_chooseWrite_74 : decode (jm_cod M_Ref_chooseWrite) 74 = .ok (.iload 4, 2) := dt_Ref_chooseWrite_c1 20
theorem d_Ref_chooseWrite_76 : decode (jm_cod M_Ref_chooseWrite) 76 = .ok (.goto 4, 3) := dt_Ref_chooseWrite_c1 21
theorem d_Ref_chooseWrite_79 : decode (jm_cod M_Ref_chooseWrite) 79 = .ok (.iload_n 2, 1) := dt_Ref_chooseWrite_c1 22
theorem d_Ref_chooseWrite_80 : decode (jm_cod M_Ref_chooseWrite) 80 = .ok (.istore_n 2, 1) := dt_Ref_chooseWrite_c1 23
def tab_Ref_chooseWrite_c2 : List (Nat × Instr × Nat) := [(81, .iinc 3 1, 3), (84, .goto (-80), 3), (87, .iload_n 2, 1), (88, .ireturn, 1)]
theorem dt_Ref_chooseWrite_c2 (i : Nat) : decode (jm_cod M_Ref_chooseWrite) (tab_Ref_chooseWrite_c2.getD i (81, .iinc 3 1, 3)).1 = .ok ((tab_Ref_chooseWrite_c2.getD i (81, .iinc 3 1, 3)).2.1, (tab_Ref_chooseWrite_c2.getD i (81, .iinc 3 1, 3)).2.2) := j_tab (by decide +kernel) i
theorem d_Ref_chooseWrite_81 : decode (jm_cod M_Ref_chooseWrite) 81 = .ok (.iinc 3 1, 3) := dt_Ref_chooseWrite_c2 0
theorem d_Ref_chooseWrite_84 : decode (jm_cod M_Ref_chooseWrite) 84 = .ok (.goto (-80), 3) := dt_Ref_chooseWrite_c2 1
theorem d_Ref_chooseWrite_87 : decode (jm_cod M_Ref_chooseWrite) 87 = .ok (.iload_n 2, 1) := dt_Ref_chooseWrite_c2 2
theorem d_Ref_chooseWrite_88 : decode (jm_cod M_Ref_chooseWrite) 88 = .ok (.ireturn, 1) := dt_Ref_chooseWrite_c2 3
def tab_Ref_isWriteRipe_c0 : List (Nat × Instr × Nat) := [(0, .aload_n 0, 1), (1, .getfield 169, 3), (4, .iload_n 1, 1), (5, .iaload, 1), (6, .iconst (-1), 1), (7, .if_icmp .eq 29, 3), (10, .aload_n 0, 1), (11, .getfield 348, 3), (14, .aload_n 0, 1), (15, .getfield 169, 3), (18, .iload_n 1, 1), (19, .iaload, 1), (20, .aload_n 0, 1), (21, .getfield 23, 3), (24, .iload_n 2, 1), (25, .iaload, 1), (26, .iadd, 1), (27, .iconst 1, 1), (28, .iadd, 1), (29, .if_icmp .lt 7, 3), (32, .iconst 1, 1), (33, .goto 4, 3), (36, .iconst 0, 1), (37, .ireturn, 1)]
theorem dt_Ref_isWriteRipe_c0 (i : Nat) : decode (jm_cod M_Ref_isWriteRipe) (tab_Ref_isWriteRipe_c0.getD i (0, .aload_n 0, 1)).1 = .ok ((tab_Ref_isWriteRipe_c0.getD i (0, .aload_n 0, 1)).2.1, (tab_Ref_isWriteRipe_c0.getD i (0, .aload_n 0, 1)).2.2) := j_tab (by decide +kernel) i
theorem d_Ref_isWriteRipe_0 : decode (jm_cod M_Ref_isWriteRipe) 0 = .ok (.aload_n 0, 1) := dt_Ref_isWriteRipe_c0 0
theorem d_Ref_isWriteRipe_1 : decode (jm_cod M_Ref_isWriteRipe) 1 = .ok (.getfield 169, 3) := dt_Ref_isWriteRipe_c0 1
theorem d_Ref_isWriteRipe_4 : decode (jm_cod M_Ref_isWriteRipe) 4 = .ok (.iload_n 1, 1) := dt_Ref_isWriteRipe_c0 2
theorem d_Ref_isWriteRipe_5 : decode (jm_cod M_Ref_isWriteRipe) 5 = .ok (.iaload, 1) := dt_Ref_isWriteRipe_c0 3
theorem d_Ref_isWriteRipe_6 : decode (jm_cod M_Ref_isWriteRipe) 6 = .ok (.iconst (-1), 1) := dt_Ref_isWriteRipe_c0 4
theorem d_Ref_isWriteRipe_7 : decode (jm_cod M_Ref_isWriteRipe) 7 = .ok (.if_icmp .eq 29, 3) := dt_Ref_isWriteRipe_c0 5
theorem d_Ref_isWriteRipe_10 : decode (jm_cod M_Ref_isWriteRipe) 10 = .ok (.aload_n 0, 1) := dt_Ref_isWriteRipe_c0 6
theorem d_Ref_isWriteRipe_11 : decode (jm_cod M_Ref_isWriteRipe) 11 = .ok (.getfield 348, 3) := dt_Ref_isWriteRipe_c0 7
theorem d_Ref_isWriteRipe_14 : decode (jm_cod M_Ref_isWriteRipe) 14 = .ok (.aload_n 0, 1) := dt_Ref_isWriteRipe_c0 8
theorem d_Ref_isWriteRipe_15 : decode (jm_cod M_Ref_isWriteRipe) 15 = .ok (.getfield 169, 3) := dt_Ref_isWriteRipe_c0 9
theorem d_Ref_isWriteRipe_18 : decode (jm_cod M_Ref_isWriteRipe) 18 = .ok (.iload_n 1, 1) := dt_Ref_isWriteRipe_c0 10
theorem d_Ref_isWriteRipe_19 : decode (jm_cod M_Ref_isWriteRipe) 19 = .ok (.iaload, 1) := dt_Ref_isWriteRipe_c0 11
theorem d_Ref_isWriteRipe_20 : decode (jm_cod M_Ref_isWriteRipe) 20 = .ok (.aload_n 0, 1) := dt_Ref_isWriteRipe_c0 12
theorem d_Ref_isWriteRipe_21 : decode (jm_cod M_Ref_isWriteRipe) 21 = .ok (.getfield 23, 3) := dt_Ref_isWriteRipe_c0 13
theorem d_Ref_isWriteRipe_24 : decode (jm_cod M_Ref_isWriteRipe) 24 = .ok (.iload_n 2, 1) := dt_Ref_isWriteRipe_c0 14
theorem d_Ref_isWriteRipe_25 : decode (jm_cod M_Ref_isWriteRipe) 25 = .ok (.iaload, 1) := dt_Ref_isWriteRipe_c0 15
theorem d_Ref_isWriteRipe_26 : decode (jm_cod M_Ref_isWriteRipe) 26 = .ok (.iadd, 1) := dt_Ref_isWriteRipe_c0 16
theorem d_Ref_isWriteRipe_27 : decode (jm_cod M_Ref_isWriteRipe) 27 = .ok (.iconst 1, 1) := dt_Ref_isWriteRipe_c0 17
theorem d_Ref_isWriteRipe_28 : decode (jm_cod M_Ref_isWriteRipe) 28 = .ok (.iadd, 1) := dt_Ref_isWriteRipe_c0 18
theorem d_Ref_isWriteRipe_29 : decode (jm_cod M_Ref_isWriteRipe) 29 = .ok (.if_icmp .lt 7, 3) := dt_Ref_isWriteRipe_c0 19
theorem d_Ref_isWriteRipe_32 : decode (jm_cod M_Ref_isWriteRipe) 32 = .ok (.iconst 1, 1) := dt_Ref_isWriteRipe_c0 20
theorem d_Ref_isWriteRipe_33 : decode (jm_cod M_Ref_isWriteRipe) 33 = .ok (.goto 4, 3) := dt_Ref_isWriteRipe_c0 21
theorem d_Ref_isWriteRipe_36 : decode (jm_cod M_Ref_isWriteRipe) 36 = .ok (.iconst 0, 1) := dt_Ref_isWriteRipe_c0 22
theorem d_Ref_isWriteRipe_37 : decode (jm_cod M_Ref_isWriteRipe) 37 = .ok (.ireturn, 1) := dt_Ref_isWriteRipe_c0 23
def tab_Ref_isFirstWithId_c0 : List (Nat × Instr × Nat) := [(0, .iconst 1, 1), (1, .istore 4, 2), (3, .iconst 0, 1), (4, .istore 5, 2), (6, .iload 5, 2), (8, .iload_n 2, 1), (9, .if_icmp .ge 114, 3), (12, .iload_n 3, 1), (13, .ifCond .eq 22, 3), (16, .aload_n 0, 1), (17, .getfield 163, 3), (20, .aload_n 0, 1), (21, .getfield 157, 3), (24, .iconst 4, 1), (25, .iload_n 1, 1), (26, .imul, 1), (27, .iload 5, 2), (29, .iadd, 1), (30, .iaload, 1), (31, .laload, 1), (32, .goto 19, 3), (35, .aload_n 0, 1), (36, .getfield 190, 3), (39, .aload_n 0, 1)]
theorem dt_Ref_isFirstWithId_c0 (i : Nat) : decode (jm_cod M_Ref_isFirstWithId) (tab_Ref_isFirstWithId_c0.getD i (0, .iconst 1, 1)).1 = .ok ((tab_Ref_isFirstWithId_c0.getD i (0, .iconst 1, 1)).2.1, (tab_Ref_isFirstWithId_c0.getD i (0, .iconst 1, 1)).2.2) := j_tab (by decide +kernel) i
theorem d_Ref_isFirstWithId_0 : decode (jm_cod M_Ref_isFirstWithId) 0 = .ok (.iconst 1, 1) := dt_Ref_isFirstWithId_c0 0
theorem d_Ref_isFirstWithId_1 : decode (jm_cod M_Ref_isFirstWithId) 1 = .ok (.istore 4, 2) := dt_Ref_isFirstWithId_c0 1
theorem d_Ref_isFirstWithId_3 : decode (jm_cod M_Ref_isFirstWithId) 3 = .ok (.iconst 0, 1) := dt_Ref_isFirstWithId_c0 2
theorem d_Ref_isFirstWithId_4 : decode (jm_cod M_Ref_isFirstWithId) 4 = .ok (.istore 5, 2) := dt_Ref_isFirstWithId_c0 3
theorem d_Ref_isFirstWithId_6 : decode (jm_cod M_Ref_isFirstWithId) 6 = .ok (.iload 5, 2) := dt_Ref_isFirstWithId_c0 4
theorem d_Ref_isFirstWithId_8 : decode (jm_cod M_Ref_isFirstWithId) 8 = .ok (.iload_n 2, 1) := dt_Ref_isFirstWithId_c0 5
theorem d_Ref_isFirstWithId_9 : decode (jm_cod M_Ref_isFirstWithId) 9 = .ok (.if_icmp .ge 114, 3) := dt_Ref_isFirstWithId_c0 6
theorem d_Ref_isFirstWithId_12 : decode (jm_cod M_Ref_isFirstWithId) 12 = .ok (.iload_n 3, 1) := dt_Ref_isFirstWithId_c0 7
theorem d_Ref_isFirstWithId_13 : decode (jm_cod M_Ref_isFirstWithId) 13 = .ok (.ifCond .eq 22, 3) := dt_Ref_isFirstWithId_c0 8
theorem d_Ref_isFirstWithId_16 : decode (jm_cod M_Ref_isFirstWithId) 16 = .ok (.aload_n 0, 1) := dt_Ref_isFirstWithId_c0 9
theorem d_Ref_isFirstWithId_17 : decode (jm_cod M_Ref_isFirstWithId) 17 = .ok (.getfield 163, 3) := dt_Ref_isFirstWithId_c0 10
theorem d_Ref_isFirstWithId_20 : decode (jm_cod M_Ref_isFirstWithId) 20 = .ok (.aload_n 0, 1) := dt_Ref_isFirstWithId_c0 11
theorem d_Ref_isFirstWithId_21 : decode (jm_cod M_Ref_isFirstWithId) 21 = .ok (.getfield 157, 3) := dt_Ref_isFirstWithId_c0 12
theorem d_Ref_isFirstWithId_24 : decode (jm_cod M_Ref_isFirstWithId) 24 = .ok (.iconst 4, 1) := dt_Ref_isFirstWithId_c0 13
theorem d_Ref_isFirstWithId_25 : decode (jm_cod M_Ref_isFirstWithId) 25 = .ok (.iload_n 1, 1) := dt_Ref_isFirstWithId_c0 14
theorem d_Ref_isFirstWithId_26 : decode (jm_cod M_Ref_isFirstWithId) 26 = .ok (.imul, 1) := dt_Ref_isFirstWithId_c0 15
theorem d_Ref_isFirstWithId_27 : decode (jm_cod M_Ref_isFirstWithId) 27 = .ok (.iload 5, 2) := dt_Ref_isFirstWithId_c0 16
theorem d_Ref_isFirstWithId_29 : decode (jm_cod M_Ref_isFirstWithId) 29 = .ok (.iadd, 1) := dt_Ref_isFirstWithId_c0 17
theorem d_Ref_isFirstWithId_30 : decode (jm_cod M_Ref_isFirstWithId) 30 = .ok (.iaload, 1) := dt_Ref_isFirstWithId_c0 18
theorem d_Ref_isFirstWithId_31 : decode (jm_cod M_Ref_isFirstWithId) 31 = .ok (.laload, 1) := dt_Ref_isFirstWithId_c0 19
theorem d_Ref_isFirstWithId_32 : decode (jm_cod M_Ref_isFirstWithId) 32 = .ok (.goto 19, 3) := dt_Ref_isFirstWithId_c0 20
theorem d_Ref_isFirstWithId_35 : decode (jm_cod M_Ref_isFirstWithId) 35 = .ok (.aload_n 0, 1) := dt_Ref_isFirstWithId_c0 21
theorem d_Ref_isFirstWithId_36 : decode (jm_cod M_Ref_isFirstWithId) 36 = .ok (.getfield 190, 3) := dt_Ref_isFirstWithId_c0 22
theorem d_Ref_isFirstWithId_39 : decode (jm_cod M_Ref_isFirstWithId) 39 = .ok (.aload_n 0, 1) := dt_Ref_isFirstWithId_c0 23
