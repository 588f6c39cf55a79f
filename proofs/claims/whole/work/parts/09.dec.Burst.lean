def tab_Burst_init_c0 : List (Nat × Instr × Nat) := [(0, .aload_n 0, 1), (1, .invokespecial 3, 3), (4, .aload_n 0, 1), (5, .bipush 16, 2), (7, .newarray .long, 2), (9, .putfield 9, 3), (12, .aload_n 0, 1), (13, .bipush 16, 2), (15, .newarray .int, 2), (17, .putfield 15, 3), (20, .return_, 1)]
theorem dt_Burst_init_c0 (i : Nat) : decode (jm_cod M_Burst_init) (tab_Burst_init_c0.getD i (0, .aload_n 0, 1)).1 = .ok ((tab_Burst_init_c0.getD i (0, .aload_n 0, 1)).2.1, (tab_Burst_init_c0.getD i (0, .aload_n 0, 1)).2.2) := j_tab (by decide +kernel) i
theorem d_Burst_init_0 : decode (jm_cod M_Burst_init) 0 = .ok (.aload_n 0, 1) := dt_Burst_init_c0 0
theorem d_Burst_init_1 : decode (jm_cod M_Burst_init) 1 = .ok (.invokespecial 3, 3) := dt_Burst_init_c0 1
theorem d_Burst_init_4 : decode (jm_cod M_Burst_init) 4 = .ok (.aload_n 0, 1) := dt_Burst_init_c0 2
theorem d_Burst_init_5 : decode (jm_cod M_Burst_init) 5 = .ok (.bipush 16, 2) := dt_Burst_init_c0 3
theorem d_Burst_init_7 : decode (jm_cod M_Burst_init) 7 = .ok (.newarray .long, 2) := dt_Burst_init_c0 4
theorem d_Burst_init_9 : decode (jm_cod M_Burst_init) 9 = .ok (.putfield 9, 3) := dt_Burst_init_c0 5
theorem d_Burst_init_12 : decode (jm_cod M_Burst_init) 12 = .ok (.aload_n 0, 1) := dt_Burst_init_c0 6
theorem d_Burst_init_13 : decode (jm_cod M_Burst_init) 13 = .ok (.bipush 16, 2) := dt_Burst_init_c0 7
theorem d_Burst_init_15 : decode (jm_cod M_Burst_init) 15 = .ok (.newarray .int, 2) := dt_Burst_init_c0 8
theorem d_Burst_init_17 : decode (jm_cod M_Burst_init) 17 = .ok (.putfield 15, 3) := dt_Burst_init_c0 9
theorem d_Burst_init_20 : decode (jm_cod M_Burst_init) 20 = .ok (.return_, 1) := dt_Burst_init_c0 10
def tab_Burst_contentOf_c0 : List (Nat × Instr × Nat) := [(0, .iload_n 0, 1), (1, .sipush 512, 3), (4, .iand, 1), (5, .ifCond .eq 7, 3), (8, .lconst 1, 1), (9, .goto 4, 3), (12, .lconst 0, 1), (13, .lstore_n 3, 1), (14, .iload_n 0, 1), (15, .bipush 11, 2), (17, .ishr, 1), (18, .bipush 15, 2), (20, .iand, 1), (21, .i2l, 1), (22, .lstore 5, 2), (24, .iload_n 2, 1), (25, .i2l, 1), (26, .iload_n 1, 1), (27, .i2l, 1), (28, .bipush 6, 2), (30, .lshl, 1), (31, .lor, 1), (32, .iload_n 0, 1), (33, .i2l, 1)]
theorem dt_Burst_contentOf_c0 (i : Nat) : decode (jm_cod M_Burst_contentOf) (tab_Burst_contentOf_c0.getD i (0, .iload_n 0, 1)).1 = .ok ((tab_Burst_contentOf_c0.getD i (0, .iload_n 0, 1)).2.1, (tab_Burst_contentOf_c0.getD i (0, .iload_n 0, 1)).2.2) := j_tab (by decide +kernel) i
theorem d_Burst_contentOf_0 : decode (jm_cod M_Burst_contentOf) 0 = .ok (.iload_n 0, 1) := dt_Burst_contentOf_c0 0
theorem d_Burst_contentOf_1 : decode (jm_cod M_Burst_contentOf) 1 = .ok (.sipush 512, 3) := dt_Burst_contentOf_c0 1
theorem d_Burst_contentOf_4 : decode (jm_cod M_Burst_contentOf) 4 = .ok (.iand, 1) := dt_Burst_contentOf_c0 2
theorem d_Burst_contentOf_5 : decode (jm_cod M_Burst_contentOf) 5 = .ok (.ifCond .eq 7, 3) := dt_Burst_contentOf_c0 3
theorem d_Burst_contentOf_8 : decode (jm_cod M_Burst_contentOf) 8 = .ok (.lconst 1, 1) := dt_Burst_contentOf_c0 4
theorem d_Burst_contentOf_9 : decode (jm_cod M_Burst_contentOf) 9 = .ok (.goto 4, 3) := dt_Burst_contentOf_c0 5
theorem d_Burst_contentOf_12 : decode (jm_cod M_Burst_contentOf) 12 = .ok (.lconst 0, 1) := dt_Burst_contentOf_c0 6
theorem d_Burst_contentOf_13 : decode (jm_cod M_Burst_contentOf) 13 = .ok (.lstore_n 3, 1) := dt_Burst_contentOf_c0 7
theorem d_Burst_contentOf_14 : decode (jm_cod M_Burst_contentOf) 14 = .ok (.iload_n 0, 1) := dt_Burst_contentOf_c0 8
theorem d_Burst_contentOf_15 : decode (jm_cod M_Burst_contentOf) 15 = .ok (.bipush 11, 2) := dt_Burst_contentOf_c0 9
theorem d_Burst_contentOf_17 : decode (jm_cod M_Burst_contentOf) 17 = .ok (.ishr, 1) := dt_Burst_contentOf_c0 10
theorem d_Burst_contentOf_18 : decode (jm_cod M_Burst_contentOf) 18 = .ok (.bipush 15, 2) := dt_Burst_contentOf_c0 11
theorem d_Burst_contentOf_20 : decode (jm_cod M_Burst_contentOf) 20 = .ok (.iand, 1) := dt_Burst_contentOf_c0 12
theorem d_Burst_contentOf_21 : decode (jm_cod M_Burst_contentOf) 21 = .ok (.i2l, 1) := dt_Burst_contentOf_c0 13
theorem d_Burst_contentOf_22 : decode (jm_cod M_Burst_contentOf) 22 = .ok (.lstore 5, 2) := dt_Burst_contentOf_c0 14
theorem d_Burst_contentOf_24 : decode (jm_cod M_Burst_contentOf) 24 = .ok (.iload_n 2, 1) := dt_Burst_contentOf_c0 15
theorem d_Burst_contentOf_25 : decode (jm_cod M_Burst_contentOf) 25 = .ok (.i2l, 1) := dt_Burst_contentOf_c0 16
theorem d_Burst_contentOf_26 : decode (jm_cod M_Burst_contentOf) 26 = .ok (.iload_n 1, 1) := dt_Burst_contentOf_c0 17
theorem d_Burst_contentOf_27 : decode (jm_cod M_Burst_contentOf) 27 = .ok (.i2l, 1) := dt_Burst_contentOf_c0 18
theorem d_Burst_contentOf_28 : decode (jm_cod M_Burst_contentOf) 28 = .ok (.bipush 6, 2) := dt_Burst_contentOf_c0 19
theorem d_Burst_contentOf_30 : decode (jm_cod M_Burst_contentOf) 30 = .ok (.lshl, 1) := dt_Burst_contentOf_c0 20
theorem d_Burst_contentOf_31 : decode (jm_cod M_Burst_contentOf) 31 = .ok (.lor, 1) := dt_Burst_contentOf_c0 21
theorem d_Burst_contentOf_32 : decode (jm_cod M_Burst_contentOf) 32 = .ok (.iload_n 0, 1) := dt_Burst_contentOf_c0 22
theorem d_Burst_contentOf_33 : decode (jm_cod M_Burst_contentOf) 33 = .ok (.i2l, 1) := dt_Burst_contentOf_c0 23
def tab_Burst_contentOf_c1 : List (Nat × Instr × Nat) := [(34, .ldc2_w 40, 3), (37, .land, 1), (38, .bipush 22, 2), (40, .lshl, 1), (41, .lor, 1), (42, .lload_n 3, 1), (43, .bipush 30, 2), (45, .lshl, 1), (46, .lor, 1), (47, .lload 5, 2), (49, .bipush 31, 2), (51, .lshl, 1), (52, .lor, 1), (53, .lreturn, 1)]
theorem dt_Burst_contentOf_c1 (i : Nat) : decode (jm_cod M_Burst_contentOf) (tab_Burst_contentOf_c1.getD i (34, .ldc2_w 40, 3)).1 = .ok ((tab_Burst_contentOf_c1.getD i (34, .ldc2_w 40, 3)).2.1, (tab_Burst_contentOf_c1.getD i (34, .ldc2_w 40, 3)).2.2) := j_tab (by decide +kernel) i
theorem d_Burst_contentOf_34 : decode (jm_cod M_Burst_contentOf) 34 = .ok (.ldc2_w 40, 3) := dt_Burst_contentOf_c1 0
theorem d_Burst_contentOf_37 : decode (jm_cod M_Burst_contentOf) 37 = .ok (.land, 1) := dt_Burst_contentOf_c1 1
theorem d_Burst_contentOf_38 : decode (jm_cod M_Burst_contentOf) 38 = .ok (.bipush 22, 2) := dt_Burst_contentOf_c1 2
theorem d_Burst_contentOf_40 : decode (jm_cod M_Burst_contentOf) 40 = .ok (.lshl, 1) := dt_Burst_contentOf_c1 3
theorem d_Burst_contentOf_41 : decode (jm_cod M_Burst_contentOf) 41 = .ok (.lor, 1) := dt_Burst_contentOf_c1 4
theorem d_Burst_contentOf_42 : decode (jm_cod M_Burst_contentOf) 42 = .ok (.lload_n 3, 1) := dt_Burst_contentOf_c1 5
theorem d_Burst_contentOf_43 : decode (jm_cod M_Burst_contentOf) 43 = .ok (.bipush 30, 2) := dt_Burst_contentOf_c1 6
theorem d_Burst_contentOf_45 : decode (jm_cod M_Burst_contentOf) 45 = .ok (.lshl, 1) := dt_Burst_contentOf_c1 7
theorem d_Burst_contentOf_46 : decode (jm_cod M_Burst_contentOf) 46 = .ok (.lor, 1) := dt_Burst_contentOf_c1 8
theorem d_Burst_contentOf_47 : decode (jm_cod M_Burst_contentOf) 47 = .ok (.lload 5, 2) := dt_Burst_contentOf_c1 9
theorem d_Burst_contentOf_49 : decode (jm_cod M_Burst_contentOf) 49 = .ok (.bipush 31, 2) := dt_Burst_contentOf_c1 10
theorem d_Burst_contentOf_51 : decode (jm_cod M_Burst_contentOf) 51 = .ok (.lshl, 1) := dt_Burst_contentOf_c1 11
theorem d_Burst_contentOf_52 : decode (jm_cod M_Burst_contentOf) 52 = .ok (.lor, 1) := dt_Burst_contentOf_c1 12
theorem d_Burst_contentOf_53 : decode (jm_cod M_Burst_contentOf) 53 = .ok (.lreturn, 1) := dt_Burst_contentOf_c1 13
def tab_Burst_brokenRule_c0 : List (Nat × Instr × Nat) := [(0, .lload_n 0, 1), (1, .invokestatic 43, 3), (4, .istore_n 2, 1), (5, .iload_n 2, 1), (6, .iconst 2, 1), (7, .if_icmp .le 5, 3), (10, .iconst 3, 1), (11, .ireturn, 1), (12, .iload_n 2, 1), (13, .iconst 2, 1), (14, .if_icmp .ne 12, 3), (17, .lload_n 0, 1), (18, .invokestatic 47, 3), (21, .ifCond .eq 5, 3), (24, .iconst 4, 1), (25, .ireturn, 1), (26, .iload_n 2, 1), (27, .iconst 1, 1), (28, .if_icmp .ne 12, 3), (31, .lload_n 0, 1), (32, .invokestatic 51, 3), (35, .ifCond .eq 5, 3), (38, .iconst 5, 1), (39, .ireturn, 1)]
theorem dt_Burst_brokenRule_c0 (i : Nat) : decode (jm_cod M_Burst_brokenRule) (tab_Burst_brokenRule_c0.getD i (0, .lload_n 0, 1)).1 = .ok ((tab_Burst_brokenRule_c0.getD i (0, .lload_n 0, 1)).2.1, (tab_Burst_brokenRule_c0.getD i (0, .lload_n 0, 1)).2.2) := j_tab (by decide +kernel) i
theorem d_Burst_brokenRule_0 : decode (jm_cod M_Burst_brokenRule) 0 = .ok (.lload_n 0, 1) := dt_Burst_brokenRule_c0 0
theorem d_Burst_brokenRule_1 : decode (jm_cod M_Burst_brokenRule) 1 = .ok (.invokestatic 43, 3) := dt_Burst_brokenRule_c0 1
theorem d_Burst_brokenRule_4 : decode (jm_cod M_Burst_brokenRule) 4 = .ok (.istore_n 2, 1) := dt_Burst_brokenRule_c0 2
theorem d_Burst_brokenRule_5 : decode (jm_cod M_Burst_brokenRule) 5 = .ok (.iload_n 2, 1) := dt_Burst_brokenRule_c0 3
theorem d_Burst_brokenRule_6 : decode (jm_cod M_Burst_brokenRule) 6 = .ok (.iconst 2, 1) := dt_Burst_brokenRule_c0 4
theorem d_Burst_brokenRule_7 : decode (jm_cod M_Burst_brokenRule) 7 = .ok (.if_icmp .le 5, 3) := dt_Burst_brokenRule_c0 5
theorem d_Burst_brokenRule_10 : decode (jm_cod M_Burst_brokenRule) 10 = .ok (.iconst 3, 1) := dt_Burst_brokenRule_c0 6
theorem d_Burst_brokenRule_11 : decode (jm_cod M_Burst_brokenRule) 11 = .ok (.ireturn, 1) := dt_Burst_brokenRule_c0 7
theorem d_Burst_brokenRule_12 : decode (jm_cod M_Burst_brokenRule) 12 = .ok (.iload_n 2, 1) := dt_Burst_brokenRule_c0 8
theorem d_Burst_brokenRule_13 : decode (jm_cod M_Burst_brokenRule) 13 = .ok (.iconst 2, 1) := dt_Burst_brokenRule_c0 9
theorem d_Burst_brokenRule_14 : decode (jm_cod M_Burst_brokenRule) 14 = .ok (.if_icmp .ne 12, 3) := dt_Burst_brokenRule_c0 10
theorem d_Burst_brokenRule_17 : decode (jm_cod M_Burst_brokenRule) 17 = .ok (.lload_n 0, 1) := dt_Burst_brokenRule_c0 11
theorem d_Burst_brokenRule_18 : decode (jm_cod M_Burst_brokenRule) 18 = .ok (.invokestatic 47, 3) := dt_Burst_brokenRule_c0 12
theorem d_Burst_brokenRule_21 : decode (jm_cod M_Burst_brokenRule) 21 = .ok (.ifCond .eq 5, 3) := dt_Burst_brokenRule_c0 13
theorem d_Burst_brokenRule_24 : decode (jm_cod M_Burst_brokenRule) 24 = .ok (.iconst 4, 1) := dt_Burst_brokenRule_c0 14
theorem d_Burst_brokenRule_25 : decode (jm_cod M_Burst_brokenRule) 25 = .ok (.ireturn, 1) := dt_Burst_brokenRule_c0 15
theorem d_Burst_brokenRule_26 : decode (jm_cod M_Burst_brokenRule) 26 = .ok (.iload_n 2, 1) := dt_Burst_brokenRule_c0 16
theorem d_Burst_brokenRule_27 : decode (jm_cod M_Burst_brokenRule) 27 = .ok (.iconst 1, 1) := dt_Burst_brokenRule_c0 17
theorem d_Burst_brokenRule_28 : decode (jm_cod M_Burst_brokenRule) 28 = .ok (.if_icmp .ne 12, 3) := dt_Burst_brokenRule_c0 18
theorem d_Burst_brokenRule_31 : decode (jm_cod M_Burst_brokenRule) 31 = .ok (.lload_n 0, 1) := dt_Burst_brokenRule_c0 19
theorem d_Burst_brokenRule_32 : decode (jm_cod M_Burst_brokenRule) 32 = .ok (.invokestatic 51, 3) := dt_Burst_brokenRule_c0 20
theorem d_Burst_brokenRule_35 : decode (jm_cod M_Burst_brokenRule) 35 = .ok (.ifCond .eq 5, 3) := dt_Burst_brokenRule_c0 21
theorem d_Burst_brokenRule_38 : decode (jm_cod M_Burst_brokenRule) 38 = .ok (.iconst 5, 1) := dt_Burst_brokenRule_c0 22
theorem d_Burst_brokenRule_39 : decode (jm_cod M_Burst_brokenRule) 39 = .ok (.ireturn, 1) := dt_Burst_brokenRule_c0 23
def tab_Burst_brokenRule_c1 : List (Nat × Instr × Nat) := [(40, .lload_n 0, 1), (41, .invokestatic 54, 3), (44, .ifCond .eq 13, 3), (47, .lload_n 0, 1), (48, .invokestatic 57, 3), (51, .ifCond .eq 6, 3), (54, .bipush 6, 2), (56, .ireturn, 1), (57, .iconst 0, 1), (58, .ireturn, 1)]
theorem dt_Burst_brokenRule_c1 (i : Nat) : decode (jm_cod M_Burst_brokenRule) (tab_Burst_brokenRule_c1.getD i (40, .lload_n 0, 1)).1 = .ok ((tab_Burst_brokenRule_c1.getD i (40, .lload_n 0, 1)).2.1, (tab_Burst_brokenRule_c1.getD i (40, .lload_n 0, 1)).2.2) := j_tab (by decide +kernel) i
theorem d_Burst_brokenRule_40 : decode (jm_cod M_Burst_brokenRule) 40 = .ok (.lload_n 0, 1) := dt_Burst_brokenRule_c1 0
theorem d_Burst_brokenRule_41 : decode (jm_cod M_Burst_brokenRule) 41 = .ok (.invokestatic 54, 3) := dt_Burst_brokenRule_c1 1
theorem d_Burst_brokenRule_44 : decode (jm_cod M_Burst_brokenRule) 44 = .ok (.ifCond .eq 13, 3) := dt_Burst_brokenRule_c1 2
theorem d_Burst_brokenRule_47 : decode (jm_cod M_Burst_brokenRule) 47 = .ok (.lload_n 0, 1) := dt_Burst_brokenRule_c1 3
theorem d_Burst_brokenRule_48 : decode (jm_cod M_Burst_brokenRule) 48 = .ok (.invokestatic 57, 3) := dt_Burst_brokenRule_c1 4
theorem d_Burst_brokenRule_51 : decode (jm_cod M_Burst_brokenRule) 51 = .ok (.ifCond .eq 6, 3) := dt_Burst_brokenRule_c1 5
theorem d_Burst_brokenRule_54 : decode (jm_cod M_Burst_brokenRule) 54 = .ok (.bipush 6, 2) := dt_Burst_brokenRule_c1 6
theorem d_Burst_brokenRule_56 : decode (jm_cod M_Burst_brokenRule) 56 = .ok (.ireturn, 1) := dt_Burst_brokenRule_c1 7
theorem d_Burst_brokenRule_57 : decode (jm_cod M_Burst_brokenRule) 57 = .ok (.iconst 0, 1) := dt_Burst_brokenRule_c1 8
theorem d_Burst_brokenRule_58 : decode (jm_cod M_Burst_brokenRule) 58 = .ok (.ireturn, 1) := dt_Burst_brokenRule_c1 9
def tab_Burst_kindOf_c0 : List (Nat × Instr × Nat) := [(0, .lload_n 0, 1), (1, .bipush 28, 2), (3, .lshr, 1), (4, .l2i, 1), (5, .iconst 3, 1), (6, .iand, 1), (7, .ireturn, 1)]
theorem dt_Burst_kindOf_c0 (i : Nat) : decode (jm_cod M_Burst_kindOf) (tab_Burst_kindOf_c0.getD i (0, .lload_n 0, 1)).1 = .ok ((tab_Burst_kindOf_c0.getD i (0, .lload_n 0, 1)).2.1, (tab_Burst_kindOf_c0.getD i (0, .lload_n 0, 1)).2.2) := j_tab (by decide +kernel) i
theorem d_Burst_kindOf_0 : decode (jm_cod M_Burst_kindOf) 0 = .ok (.lload_n 0, 1) := dt_Burst_kindOf_c0 0
theorem d_Burst_kindOf_1 : decode (jm_cod M_Burst_kindOf) 1 = .ok (.bipush 28, 2) := dt_Burst_kindOf_c0 1
theorem d_Burst_kindOf_3 : decode (jm_cod M_Burst_kindOf) 3 = .ok (.lshr, 1) := dt_Burst_kindOf_c0 2
theorem d_Burst_kindOf_4 : decode (jm_cod M_Burst_kindOf) 4 = .ok (.l2i, 1) := dt_Burst_kindOf_c0 3
theorem d_Burst_kindOf_5 : decode (jm_cod M_Burst_kindOf) 5 = .ok (.iconst 3, 1) := dt_Burst_kindOf_c0 4
theorem d_Burst_kindOf_6 : decode (jm_cod M_Burst_kindOf) 6 = .ok (.iand, 1) := dt_Burst_kindOf_c0 5
theorem d_Burst_kindOf_7 : decode (jm_cod M_Burst_kindOf) 7 = .ok (.ireturn, 1) := dt_Burst_kindOf_c0 6
def tab_Burst_breaksWrap_c0 : List (Nat × Instr × Nat) := [(0, .lload_n 0, 1), (1, .invokestatic 60, 3), (4, .istore_n 2, 1), (5, .iload_n 2, 1), (6, .iconst 2, 1), (7, .if_icmp .eq 20, 3), (10, .iload_n 2, 1), (11, .iconst 4, 1), (12, .if_icmp .eq 15, 3), (15, .iload_n 2, 1), (16, .bipush 8, 2), (18, .if_icmp .eq 9, 3), (21, .iload_n 2, 1), (22, .bipush 16, 2), (24, .if_icmp .ne 7, 3), (27, .iconst 1, 1), (28, .goto 4, 3), (31, .iconst 0, 1), (32, .istore_n 3, 1), (33, .iload_n 3, 1), (34, .ifCond .eq 15, 3), (37, .lload_n 0, 1), (38, .invokestatic 63, 3), (41, .lload_n 0, 1)]
theorem dt_Burst_breaksWrap_c0 (i : Nat) : decode (jm_cod M_Burst_breaksWrap) (tab_Burst_breaksWrap_c0.getD i (0, .lload_n 0, 1)).1 = .ok ((tab_Burst_breaksWrap_c0.getD i (0, .lload_n 0, 1)).2.1, (tab_Burst_breaksWrap_c0.getD i (0, .lload_n 0, 1)).2.2) := j_tab (by decide +kernel) i
theorem d_Burst_breaksWrap_0 : decode (jm_cod M_Burst_breaksWrap) 0 = .ok (.lload_n 0, 1) := dt_Burst_breaksWrap_c0 0
theorem d_Burst_breaksWrap_1 : decode (jm_cod M_Burst_breaksWrap) 1 = .ok (.invokestatic 60, 3) := dt_Burst_breaksWrap_c0 1
theorem d_Burst_breaksWrap_4 : decode (jm_cod M_Burst_breaksWrap) 4 = .ok (.istore_n 2, 1) := dt_Burst_breaksWrap_c0 2
theorem d_Burst_breaksWrap_5 : decode (jm_cod M_Burst_breaksWrap) 5 = .ok (.iload_n 2, 1) := dt_Burst_breaksWrap_c0 3
theorem d_Burst_breaksWrap_6 : decode (jm_cod M_Burst_breaksWrap) 6 = .ok (.iconst 2, 1) := dt_Burst_breaksWrap_c0 4
theorem d_Burst_breaksWrap_7 : decode (jm_cod M_Burst_breaksWrap) 7 = .ok (.if_icmp .eq 20, 3) := dt_Burst_breaksWrap_c0 5
theorem d_Burst_breaksWrap_10 : decode (jm_cod M_Burst_breaksWrap) 10 = .ok (.iload_n 2, 1) := dt_Burst_breaksWrap_c0 6
theorem d_Burst_breaksWrap_11 : decode (jm_cod M_Burst_breaksWrap) 11 = .ok (.iconst 4, 1) := dt_Burst_breaksWrap_c0 7
theorem d_Burst_breaksWrap_12 : decode (jm_cod M_Burst_breaksWrap) 12 = .ok (.if_icmp .eq 15, 3) := dt_Burst_breaksWrap_c0 8
theorem d_Burst_breaksWrap_15 : decode (jm_cod M_Burst_breaksWrap) 15 = .ok (.iload_n 2, 1) := dt_Burst_breaksWrap_c0 9
theorem d_Burst_breaksWrap_16 : decode (jm_cod M_Burst_breaksWrap) 16 = .ok (.bipush 8, 2) := dt_Burst_breaksWrap_c0 10
theorem d_Burst_breaksWrap_18 : decode (jm_cod M_Burst_breaksWrap) 18 = .ok (.if_icmp .eq 9, 3) := dt_Burst_breaksWrap_c0 11
theorem d_Burst_breaksWrap_21 : decode (jm_cod M_Burst_breaksWrap) 21 = .ok (.iload_n 2, 1) := dt_Burst_breaksWrap_c0 12
theorem d_Burst_breaksWrap_22 : decode (jm_cod M_Burst_breaksWrap) 22 = .ok (.bipush 16, 2) := dt_Burst_breaksWrap_c0 13
theorem d_Burst_breaksWrap_24 : decode (jm_cod M_Burst_breaksWrap) 24 = .ok (.if_icmp .ne 7, 3) := dt_Burst_breaksWrap_c0 14
theorem d_Burst_breaksWrap_27 : decode (jm_cod M_Burst_breaksWrap) 27 = .ok (.iconst 1, 1) := dt_Burst_breaksWrap_c0 15
theorem d_Burst_breaksWrap_28 : decode (jm_cod M_Burst_breaksWrap) 28 = .ok (.goto 4, 3) := dt_Burst_breaksWrap_c0 16
theorem d_Burst_breaksWrap_31 : decode (jm_cod M_Burst_breaksWrap) 31 = .ok (.iconst 0, 1) := dt_Burst_breaksWrap_c0 17
theorem d_Burst_breaksWrap_32 : decode (jm_cod M_Burst_breaksWrap) 32 = .ok (.istore_n 3, 1) := dt_Burst_breaksWrap_c0 18
theorem d_Burst_breaksWrap_33 : decode (jm_cod M_Burst_breaksWrap) 33 = .ok (.iload_n 3, 1) := dt_Burst_breaksWrap_c0 19
theorem d_Burst_breaksWrap_34 : decode (jm_cod M_Burst_breaksWrap) 34 = .ok (.ifCond .eq 15, 3) := dt_Burst_breaksWrap_c0 20
theorem d_Burst_breaksWrap_37 : decode (jm_cod M_Burst_breaksWrap) 37 = .ok (.lload_n 0, 1) := dt_Burst_breaksWrap_c0 21
theorem d_Burst_breaksWrap_38 : decode (jm_cod M_Burst_breaksWrap) 38 = .ok (.invokestatic 63, 3) := dt_Burst_breaksWrap_c0 22
theorem d_Burst_breaksWrap_41 : decode (jm_cod M_Burst_breaksWrap) 41 = .ok (.lload_n 0, 1) := dt_Burst_breaksWrap_c0 23
def tab_Burst_breaksWrap_c1 : List (Nat × Instr × Nat) := [(42, .invokestatic 66, 3), (45, .irem, 1), (46, .ifCond .eq 7, 3), (49, .iconst 1, 1), (50, .goto 4, 3), (53, .iconst 0, 1), (54, .ireturn, 1)]
theorem dt_Burst_breaksWrap_c1 (i : Nat) : decode (jm_cod M_Burst_breaksWrap) (tab_Burst_breaksWrap_c1.getD i (42, .invokestatic 66, 3)).1 = .ok ((tab_Burst_breaksWrap_c1.getD i (42, .invokestatic 66, 3)).2.1, (tab_Burst_breaksWrap_c1.getD i (42, .invokestatic 66, 3)).2.2) := j_tab (by decide +kernel) i
theorem d_Burst_breaksWrap_42 : decode (jm_cod M_Burst_breaksWrap) 42 = .ok (.invokestatic 66, 3) := dt_Burst_breaksWrap_c1 0
theorem d_Burst_breaksWrap_45 : decode (jm_cod M_Burst_breaksWrap) 45 = .ok (.irem, 1) := dt_Burst_breaksWrap_c1 1
theorem d_Burst_breaksWrap_46 : decode (jm_cod M_Burst_breaksWrap) 46 = .ok (.ifCond .eq 7, 3) := dt_Burst_breaksWrap_c1 2
theorem d_Burst_breaksWrap_49 : decode (jm_cod M_Burst_breaksWrap) 49 = .ok (.iconst 1, 1) := dt_Burst_breaksWrap_c1 3
theorem d_Burst_breaksWrap_50 : decode (jm_cod M_Burst_breaksWrap) 50 = .ok (.goto 4, 3) := dt_Burst_breaksWrap_c1 4
theorem d_Burst_breaksWrap_53 : decode (jm_cod M_Burst_breaksWrap) 53 = .ok (.iconst 0, 1) := dt_Burst_breaksWrap_c1 5
theorem d_Burst_breaksWrap_54 : decode (jm_cod M_Burst_breaksWrap) 54 = .ok (.ireturn, 1) := dt_Burst_breaksWrap_c1 6
def tab_Burst_lengthOf_c0 : List (Nat × Instr × Nat) := [(0, .lload_n 0, 1), (1, .bipush 22, 2), (3, .lshr, 1), (4, .l2i, 1), (5, .bipush 15, 2), (7, .iand, 1), (8, .iconst 1, 1), (9, .iadd, 1), (10, .ireturn, 1)]
theorem dt_Burst_lengthOf_c0 (i : Nat) : decode (jm_cod M_Burst_lengthOf) (tab_Burst_lengthOf_c0.getD i (0, .lload_n 0, 1)).1 = .ok ((tab_Burst_lengthOf_c0.getD i (0, .lload_n 0, 1)).2.1, (tab_Burst_lengthOf_c0.getD i (0, .lload_n 0, 1)).2.2) := j_tab (by decide +kernel) i
theorem d_Burst_lengthOf_0 : decode (jm_cod M_Burst_lengthOf) 0 = .ok (.lload_n 0, 1) := dt_Burst_lengthOf_c0 0
theorem d_Burst_lengthOf_1 : decode (jm_cod M_Burst_lengthOf) 1 = .ok (.bipush 22, 2) := dt_Burst_lengthOf_c0 1
theorem d_Burst_lengthOf_3 : decode (jm_cod M_Burst_lengthOf) 3 = .ok (.lshr, 1) := dt_Burst_lengthOf_c0 2
theorem d_Burst_lengthOf_4 : decode (jm_cod M_Burst_lengthOf) 4 = .ok (.l2i, 1) := dt_Burst_lengthOf_c0 3
theorem d_Burst_lengthOf_5 : decode (jm_cod M_Burst_lengthOf) 5 = .ok (.bipush 15, 2) := dt_Burst_lengthOf_c0 4
theorem d_Burst_lengthOf_7 : decode (jm_cod M_Burst_lengthOf) 7 = .ok (.iand, 1) := dt_Burst_lengthOf_c0 5
theorem d_Burst_lengthOf_8 : decode (jm_cod M_Burst_lengthOf) 8 = .ok (.iconst 1, 1) := dt_Burst_lengthOf_c0 6
theorem d_Burst_lengthOf_9 : decode (jm_cod M_Burst_lengthOf) 9 = .ok (.iadd, 1) := dt_Burst_lengthOf_c0 7
theorem d_Burst_lengthOf_10 : decode (jm_cod M_Burst_lengthOf) 10 = .ok (.ireturn, 1) := dt_Burst_lengthOf_c0 8
def tab_Burst_addressOf_c0 : List (Nat × Instr × Nat) := [(0, .lload_n 0, 1), (1, .bipush 6, 2), (3, .lshr, 1), (4, .l2i, 1), (5, .ldc 42, 2), (7, .iand, 1), (8, .ireturn, 1)]
theorem dt_Burst_addressOf_c0 (i : Nat) : decode (jm_cod M_Burst_addressOf) (tab_Burst_addressOf_c0.getD i (0, .lload_n 0, 1)).1 = .ok ((tab_Burst_addressOf_c0.getD i (0, .lload_n 0, 1)).2.1, (tab_Burst_addressOf_c0.getD i (0, .lload_n 0, 1)).2.2) := j_tab (by decide +kernel) i
theorem d_Burst_addressOf_0 : decode (jm_cod M_Burst_addressOf) 0 = .ok (.lload_n 0, 1) := dt_Burst_addressOf_c0 0
theorem d_Burst_addressOf_1 : decode (jm_cod M_Burst_addressOf) 1 = .ok (.bipush 6, 2) := dt_Burst_addressOf_c0 1
theorem d_Burst_addressOf_3 : decode (jm_cod M_Burst_addressOf) 3 = .ok (.lshr, 1) := dt_Burst_addressOf_c0 2
theorem d_Burst_addressOf_4 : decode (jm_cod M_Burst_addressOf) 4 = .ok (.l2i, 1) := dt_Burst_addressOf_c0 3
theorem d_Burst_addressOf_5 : decode (jm_cod M_Burst_addressOf) 5 = .ok (.ldc 42, 2) := dt_Burst_addressOf_c0 4
theorem d_Burst_addressOf_7 : decode (jm_cod M_Burst_addressOf) 7 = .ok (.iand, 1) := dt_Burst_addressOf_c0 5
theorem d_Burst_addressOf_8 : decode (jm_cod M_Burst_addressOf) 8 = .ok (.ireturn, 1) := dt_Burst_addressOf_c0 6
def tab_Burst_bytesOf_c0 : List (Nat × Instr × Nat) := [(0, .iconst 1, 1), (1, .lload_n 0, 1), (2, .bipush 26, 2), (4, .lshr, 1), (5, .l2i, 1), (6, .iconst 3, 1), (7, .iand, 1), (8, .ishl, 1), (9, .ireturn, 1)]
theorem dt_Burst_bytesOf_c0 (i : Nat) : decode (jm_cod M_Burst_bytesOf) (tab_Burst_bytesOf_c0.getD i (0, .iconst 1, 1)).1 = .ok ((tab_Burst_bytesOf_c0.getD i (0, .iconst 1, 1)).2.1, (tab_Burst_bytesOf_c0.getD i (0, .iconst 1, 1)).2.2) := j_tab (by decide +kernel) i
theorem d_Burst_bytesOf_0 : decode (jm_cod M_Burst_bytesOf) 0 = .ok (.iconst 1, 1) := dt_Burst_bytesOf_c0 0
theorem d_Burst_bytesOf_1 : decode (jm_cod M_Burst_bytesOf) 1 = .ok (.lload_n 0, 1) := dt_Burst_bytesOf_c0 1
theorem d_Burst_bytesOf_2 : decode (jm_cod M_Burst_bytesOf) 2 = .ok (.bipush 26, 2) := dt_Burst_bytesOf_c0 2
theorem d_Burst_bytesOf_4 : decode (jm_cod M_Burst_bytesOf) 4 = .ok (.lshr, 1) := dt_Burst_bytesOf_c0 3
theorem d_Burst_bytesOf_5 : decode (jm_cod M_Burst_bytesOf) 5 = .ok (.l2i, 1) := dt_Burst_bytesOf_c0 4
theorem d_Burst_bytesOf_6 : decode (jm_cod M_Burst_bytesOf) 6 = .ok (.iconst 3, 1) := dt_Burst_bytesOf_c0 5
theorem d_Burst_bytesOf_7 : decode (jm_cod M_Burst_bytesOf) 7 = .ok (.iand, 1) := dt_Burst_bytesOf_c0 6
theorem d_Burst_bytesOf_8 : decode (jm_cod M_Burst_bytesOf) 8 = .ok (.ishl, 1) := dt_Burst_bytesOf_c0 7
theorem d_Burst_bytesOf_9 : decode (jm_cod M_Burst_bytesOf) 9 = .ok (.ireturn, 1) := dt_Burst_bytesOf_c0 8
def tab_Burst_breaksPage_c0 : List (Nat × Instr × Nat) := [(0, .lload_n 0, 1), (1, .invokestatic 63, 3), (4, .istore_n 2, 1), (5, .lload_n 0, 1), (6, .invokestatic 66, 3), (9, .istore_n 3, 1), (10, .iload_n 2, 1), (11, .iload_n 2, 1), (12, .iload_n 3, 1), (13, .irem, 1), (14, .isub, 1), (15, .lload_n 0, 1), (16, .invokestatic 60, 3), (19, .iload_n 3, 1), (20, .imul, 1), (21, .iadd, 1), (22, .iconst 1, 1), (23, .isub, 1), (24, .istore 4, 2), (26, .iload 4, 2), (28, .sipush 4096, 3), (31, .idiv, 1), (32, .iload_n 2, 1), (33, .sipush 4096, 3)]
theorem dt_Burst_breaksPage_c0 (i : Nat) : decode (jm_cod M_Burst_breaksPage) (tab_Burst_breaksPage_c0.getD i (0, .lload_n 0, 1)).1 = .ok ((tab_Burst_breaksPage_c0.getD i (0, .lload_n 0, 1)).2.1, (tab_Burst_breaksPage_c0.getD i (0, .lload_n 0, 1)).2.2) := j_tab (by decide +kernel) i
theorem d_Burst_breaksPage_0 : decode (jm_cod M_Burst_breaksPage) 0 = .ok (.lload_n 0, 1) := dt_Burst_breaksPage_c0 0
theorem d_Burst_breaksPage_1 : decode (jm_cod M_Burst_breaksPage) 1 = .ok (.invokestatic 63, 3) := dt_Burst_breaksPage_c0 1
theorem d_Burst_breaksPage_4 : decode (jm_cod M_Burst_breaksPage) 4 = .ok (.istore_n 2, 1) := dt_Burst_breaksPage_c0 2
theorem d_Burst_breaksPage_5 : decode (jm_cod M_Burst_breaksPage) 5 = .ok (.lload_n 0, 1) := dt_Burst_breaksPage_c0 3
theorem d_Burst_breaksPage_6 : decode (jm_cod M_Burst_breaksPage) 6 = .ok (.invokestatic 66, 3) := dt_Burst_breaksPage_c0 4
theorem d_Burst_breaksPage_9 : decode (jm_cod M_Burst_breaksPage) 9 = .ok (.istore_n 3, 1) := dt_Burst_breaksPage_c0 5
theorem d_Burst_breaksPage_10 : decode (jm_cod M_Burst_breaksPage) 10 = .ok (.iload_n 2, 1) := dt_Burst_breaksPage_c0 6
theorem d_Burst_breaksPage_11 : decode (jm_cod M_Burst_breaksPage) 11 = .ok (.iload_n 2, 1) := dt_Burst_breaksPage_c0 7
theorem d_Burst_breaksPage_12 : decode (jm_cod M_Burst_breaksPage) 12 = .ok (.iload_n 3, 1) := dt_Burst_breaksPage_c0 8
theorem d_Burst_breaksPage_13 : decode (jm_cod M_Burst_breaksPage) 13 = .ok (.irem, 1) := dt_Burst_breaksPage_c0 9
theorem d_Burst_breaksPage_14 : decode (jm_cod M_Burst_breaksPage) 14 = .ok (.isub, 1) := dt_Burst_breaksPage_c0 10
theorem d_Burst_breaksPage_15 : decode (jm_cod M_Burst_breaksPage) 15 = .ok (.lload_n 0, 1) := dt_Burst_breaksPage_c0 11
theorem d_Burst_breaksPage_16 : decode (jm_cod M_Burst_breaksPage) 16 = .ok (.invokestatic 60, 3) := dt_Burst_breaksPage_c0 12
theorem d_Burst_breaksPage_19 : decode (jm_cod M_Burst_breaksPage) 19 = .ok (.iload_n 3, 1) := dt_Burst_breaksPage_c0 13
theorem d_Burst_breaksPage_20 : decode (jm_cod M_Burst_breaksPage) 20 = .ok (.imul, 1) := dt_Burst_breaksPage_c0 14
theorem d_Burst_breaksPage_21 : decode (jm_cod M_Burst_breaksPage) 21 = .ok (.iadd, 1) := dt_Burst_breaksPage_c0 15
theorem d_Burst_breaksPage_22 : decode (jm_cod M_Burst_breaksPage) 22 = .ok (.iconst 1, 1) := dt_Burst_breaksPage_c0 16
theorem d_Burst_breaksPage_23 : decode (jm_cod M_Burst_breaksPage) 23 = .ok (.isub, 1) := dt_Burst_breaksPage_c0 17
theorem d_Burst_breaksPage_24 : decode (jm_cod M_Burst_breaksPage) 24 = .ok (.istore 4, 2) := dt_Burst_breaksPage_c0 18
theorem d_Burst_breaksPage_26 : decode (jm_cod M_Burst_breaksPage) 26 = .ok (.iload 4, 2) := dt_Burst_breaksPage_c0 19
theorem d_Burst_breaksPage_28 : decode (jm_cod M_Burst_breaksPage) 28 = .ok (.sipush 4096, 3) := dt_Burst_breaksPage_c0 20
theorem d_Burst_breaksPage_31 : decode (jm_cod M_Burst_breaksPage) 31 = .ok (.idiv, 1) := dt_Burst_breaksPage_c0 21
theorem d_Burst_breaksPage_32 : decode (jm_cod M_Burst_breaksPage) 32 = .ok (.iload_n 2, 1) := dt_Burst_breaksPage_c0 22
theorem d_Burst_breaksPage_33 : decode (jm_cod M_Burst_breaksPage) 33 = .ok (.sipush 4096, 3) := dt_Burst_breaksPage_c0 23
def tab_Burst_breaksPage_c1 : List (Nat × Instr × Nat) := [(36, .idiv, 1), (37, .if_icmp .eq 7, 3), (40, .iconst 1, 1), (41, .goto 4, 3), (44, .iconst 0, 1), (45, .ireturn, 1)]
theorem dt_Burst_breaksPage_c1 (i : Nat) : decode (jm_cod M_Burst_breaksPage) (tab_Burst_breaksPage_c1.getD i (36, .idiv, 1)).1 = .ok ((tab_Burst_breaksPage_c1.getD i (36, .idiv, 1)).2.1, (tab_Burst_breaksPage_c1.getD i (36, .idiv, 1)).2.2) := j_tab (by decide +kernel) i
theorem d_Burst_breaksPage_36 : decode (jm_cod M_Burst_breaksPage) 36 = .ok (.idiv, 1) := dt_Burst_breaksPage_c1 0
theorem d_Burst_breaksPage_37 : decode (jm_cod M_Burst_breaksPage) 37 = .ok (.if_icmp .eq 7, 3) := dt_Burst_breaksPage_c1 1
theorem d_Burst_breaksPage_40 : decode (jm_cod M_Burst_breaksPage) 40 = .ok (.iconst 1, 1) := dt_Burst_breaksPage_c1 2
theorem d_Burst_breaksPage_41 : decode (jm_cod M_Burst_breaksPage) 41 = .ok (.goto 4, 3) := dt_Burst_breaksPage_c1 3
theorem d_Burst_breaksPage_44 : decode (jm_cod M_Burst_breaksPage) 44 = .ok (.iconst 0, 1) := dt_Burst_breaksPage_c1 4
theorem d_Burst_breaksPage_45 : decode (jm_cod M_Burst_breaksPage) 45 = .ok (.ireturn, 1) := dt_Burst_breaksPage_c1 5
def tab_Burst_isExclusive_c0 : List (Nat × Instr × Nat) := [(0, .lload_n 0, 1), (1, .bipush 30, 2), (3, .lshr, 1), (4, .lconst 1, 1), (5, .land, 1), (6, .lconst 1, 1), (7, .lcmp, 1), (8, .ifCond .ne 7, 3), (11, .iconst 1, 1), (12, .goto 4, 3), (15, .iconst 0, 1), (16, .ireturn, 1)]
theorem dt_Burst_isExclusive_c0 (i : Nat) : decode (jm_cod M_Burst_isExclusive) (tab_Burst_isExclusive_c0.getD i (0, .lload_n 0, 1)).1 = .ok ((tab_Burst_isExclusive_c0.getD i (0, .lload_n 0, 1)).2.1, (tab_Burst_isExclusive_c0.getD i (0, .lload_n 0, 1)).2.2) := j_tab (by decide +kernel) i
theorem d_Burst_isExclusive_0 : decode (jm_cod M_Burst_isExclusive) 0 = .ok (.lload_n 0, 1) := dt_Burst_isExclusive_c0 0
theorem d_Burst_isExclusive_1 : decode (jm_cod M_Burst_isExclusive) 1 = .ok (.bipush 30, 2) := dt_Burst_isExclusive_c0 1
theorem d_Burst_isExclusive_3 : decode (jm_cod M_Burst_isExclusive) 3 = .ok (.lshr, 1) := dt_Burst_isExclusive_c0 2
theorem d_Burst_isExclusive_4 : decode (jm_cod M_Burst_isExclusive) 4 = .ok (.lconst 1, 1) := dt_Burst_isExclusive_c0 3
theorem d_Burst_isExclusive_5 : decode (jm_cod M_Burst_isExclusive) 5 = .ok (.land, 1) := dt_Burst_isExclusive_c0 4
theorem d_Burst_isExclusive_6 : decode (jm_cod M_Burst_isExclusive) 6 = .ok (.lconst 1, 1) := dt_Burst_isExclusive_c0 5
theorem d_Burst_isExclusive_7 : decode (jm_cod M_Burst_isExclusive) 7 = .ok (.lcmp, 1) := dt_Burst_isExclusive_c0 6
theorem d_Burst_isExclusive_8 : decode (jm_cod M_Burst_isExclusive) 8 = .ok (.ifCond .ne 7, 3) := dt_Burst_isExclusive_c0 7
theorem d_Burst_isExclusive_11 : decode (jm_cod M_Burst_isExclusive) 11 = .ok (.iconst 1, 1) := dt_Burst_isExclusive_c0 8
theorem d_Burst_isExclusive_12 : decode (jm_cod M_Burst_isExclusive) 12 = .ok (.goto 4, 3) := dt_Burst_isExclusive_c0 9
theorem d_Burst_isExclusive_15 : decode (jm_cod M_Burst_isExclusive) 15 = .ok (.iconst 0, 1) := dt_Burst_isExclusive_c0 10
theorem d_Burst_isExclusive_16 : decode (jm_cod M_Burst_isExclusive) 16 = .ok (.ireturn, 1) := dt_Burst_isExclusive_c0 11
def tab_Burst_breaksExclusive_c0 : List (Nat × Instr × Nat) := [(0, .lload_n 0, 1), (1, .invokestatic 60, 3), (4, .lload_n 0, 1), (5, .invokestatic 66, 3), (8, .imul, 1), (9, .istore_n 2, 1), (10, .lload_n 0, 1), (11, .invokestatic 43, 3), (14, .ifCond .eq 27, 3), (17, .iload_n 2, 1), (18, .invokestatic 69, 3), (21, .iconst 1, 1), (22, .if_icmp .ne 19, 3), (25, .iload_n 2, 1), (26, .sipush 128, 3), (29, .if_icmp .gt 12, 3), (32, .lload_n 0, 1), (33, .invokestatic 63, 3), (36, .iload_n 2, 1), (37, .irem, 1), (38, .ifCond .eq 7, 3), (41, .iconst 1, 1), (42, .goto 4, 3), (45, .iconst 0, 1)]
theorem dt_Burst_breaksExclusive_c0 (i : Nat) : decode (jm_cod M_Burst_breaksExclusive) (tab_Burst_breaksExclusive_c0.getD i (0, .lload_n 0, 1)).1 = .ok ((tab_Burst_breaksExclusive_c0.getD i (0, .lload_n 0, 1)).2.1, (tab_Burst_breaksExclusive_c0.getD i (0, .lload_n 0, 1)).2.2) := j_tab (by decide +kernel) i
theorem d_Burst_breaksExclusive_0 : decode (jm_cod M_Burst_breaksExclusive) 0 = .ok (.lload_n 0, 1) := dt_Burst_breaksExclusive_c0 0
theorem d_Burst_breaksExclusive_1 : decode (jm_cod M_Burst_breaksExclusive) 1 = .ok (.invokestatic 60, 3) := dt_Burst_breaksExclusive_c0 1
theorem d_Burst_breaksExclusive_4 : decode (jm_cod M_Burst_breaksExclusive) 4 = .ok (.lload_n 0, 1) := dt_Burst_breaksExclusive_c0 2
theorem d_Burst_breaksExclusive_5 : decode (jm_cod M_Burst_breaksExclusive) 5 = .ok (.invokestatic 66, 3) := dt_Burst_breaksExclusive_c0 3
theorem d_Burst_breaksExclusive_8 : decode (jm_cod M_Burst_breaksExclusive) 8 = .ok (.imul, 1) := dt_Burst_breaksExclusive_c0 4
theorem d_Burst_breaksExclusive_9 : decode (jm_cod M_Burst_breaksExclusive) 9 = .ok (.istore_n 2, 1) := dt_Burst_breaksExclusive_c0 5
theorem d_Burst_breaksExclusive_10 : decode (jm_cod M_Burst_breaksExclusive) 10 = .ok (.lload_n 0, 1) := dt_Burst_breaksExclusive_c0 6
theorem d_Burst_breaksExclusive_11 : decode (jm_cod M_Burst_breaksExclusive) 11 = .ok (.invokestatic 43, 3) := dt_Burst_breaksExclusive_c0 7
theorem d_Burst_breaksExclusive_14 : decode (jm_cod M_Burst_breaksExclusive) 14 = .ok (.ifCond .eq 27, 3) := dt_Burst_breaksExclusive_c0 8
theorem d_Burst_breaksExclusive_17 : decode (jm_cod M_Burst_breaksExclusive) 17 = .ok (.iload_n 2, 1) := dt_Burst_breaksExclusive_c0 9
theorem d_Burst_breaksExclusive_18 : decode (jm_cod M_Burst_breaksExclusive) 18 = .ok (.invokestatic 69, 3) := dt_Burst_breaksExclusive_c0 10
theorem d_Burst_breaksExclusive_21 : decode (jm_cod M_Burst_breaksExclusive) 21 = .ok (.iconst 1, 1) := dt_Burst_breaksExclusive_c0 11
theorem d_Burst_breaksExclusive_22 : decode (jm_cod M_Burst_breaksExclusive) 22 = .ok (.if_icmp .ne 19, 3) := dt_Burst_breaksExclusive_c0 12
theorem d_Burst_breaksExclusive_25 : decode (jm_cod M_Burst_breaksExclusive) 25 = .ok (.iload_n 2, 1) := dt_Burst_breaksExclusive_c0 13
theorem d_Burst_breaksExclusive_26 : decode (jm_cod M_Burst_breaksExclusive) 26 = .ok (.sipush 128, 3) := dt_Burst_breaksExclusive_c0 14
theorem d_Burst_breaksExclusive_29 : decode (jm_cod M_Burst_breaksExclusive) 29 = .ok (.if_icmp .gt 12, 3) := dt_Burst_breaksExclusive_c0 15
theorem d_Burst_breaksExclusive_32 : decode (jm_cod M_Burst_breaksExclusive) 32 = .ok (.lload_n 0, 1) := dt_Burst_breaksExclusive_c0 16
theorem d_Burst_breaksExclusive_33 : decode (jm_cod M_Burst_breaksExclusive) 33 = .ok (.invokestatic 63, 3) := dt_Burst_breaksExclusive_c0 17
theorem d_Burst_breaksExclusive_36 : decode (jm_cod M_Burst_breaksExclusive) 36 = .ok (.iload_n 2, 1) := dt_Burst_breaksExclusive_c0 18
theorem d_Burst_breaksExclusive_37 : decode (jm_cod M_Burst_breaksExclusive) 37 = .ok (.irem, 1) := dt_Burst_breaksExclusive_c0 19
theorem d_Burst_breaksExclusive_38 : decode (jm_cod M_Burst_breaksExclusive) 38 = .ok (.ifCond .eq 7, 3) := dt_Burst_breaksExclusive_c0 20
theorem d_Burst_breaksExclusive_41 : decode (jm_cod M_Burst_breaksExclusive) 41 = .ok (.iconst 1, 1) := dt_Burst_breaksExclusive_c0 21
theorem d_Burst_breaksExclusive_42 : decode (jm_cod M_Burst_breaksExclusive) 42 = .ok (.goto 4, 3) := dt_Burst_breaksExclusive_c0 22
theorem d_Burst_breaksExclusive_45 : decode (jm_cod M_Burst_breaksExclusive) 45 = .ok (.iconst 0, 1) := dt_Burst_breaksExclusive_c0 23
def tab_Burst_breaksExclusive_c1 : List (Nat × Instr × Nat) := [(46, .ireturn, 1)]
theorem dt_Burst_breaksExclusive_c1 (i : Nat) : decode (jm_cod M_Burst_breaksExclusive) (tab_Burst_breaksExclusive_c1.getD i (46, .ireturn, 1)).1 = .ok ((tab_Burst_breaksExclusive_c1.getD i (46, .ireturn, 1)).2.1, (tab_Burst_breaksExclusive_c1.getD i (46, .ireturn, 1)).2.2) := j_tab (by decide +kernel) i
theorem d_Burst_breaksExclusive_46 : decode (jm_cod M_Burst_breaksExclusive) 46 = .ok (.ireturn, 1) := dt_Burst_breaksExclusive_c1 0
def tab_Burst_start_c0 : List (Nat × Instr × Nat) := [(0, .aload_n 0, 1), (1, .lload_n 1, 1), (2, .putfield 19, 3), (5, .aload_n 0, 1), (6, .iconst 0, 1), (7, .putfield 23, 3), (10, .aload_n 0, 1), (11, .iconst 0, 1), (12, .putfield 27, 3), (15, .aload_n 0, 1), (16, .iconst 0, 1), (17, .putfield 30, 3), (20, .aload_n 0, 1), (21, .iconst (-1), 1), (22, .putfield 34, 3), (25, .aload_n 0, 1), (26, .iconst 0, 1), (27, .putfield 37, 3), (30, .return_, 1)]
theorem dt_Burst_start_c0 (i : Nat) : decode (jm_cod M_Burst_start) (tab_Burst_start_c0.getD i (0, .aload_n 0, 1)).1 = .ok ((tab_Burst_start_c0.getD i (0, .aload_n 0, 1)).2.1, (tab_Burst_start_c0.getD i (0, .aload_n 0, 1)).2.2) := j_tab (by decide +kernel) i
theorem d_Burst_start_0 : decode (jm_cod M_Burst_start) 0 = .ok (.aload_n 0, 1) := dt_Burst_start_c0 0
theorem d_Burst_start_1 : decode (jm_cod M_Burst_start) 1 = .ok (.lload_n 1, 1) := dt_Burst_start_c0 1
theorem d_Burst_start_2 : decode (jm_cod M_Burst_start) 2 = .ok (.putfield 19, 3) := dt_Burst_start_c0 2
theorem d_Burst_start_5 : decode (jm_cod M_Burst_start) 5 = .ok (.aload_n 0, 1) := dt_Burst_start_c0 3
theorem d_Burst_start_6 : decode (jm_cod M_Burst_start) 6 = .ok (.iconst 0, 1) := dt_Burst_start_c0 4
theorem d_Burst_start_7 : decode (jm_cod M_Burst_start) 7 = .ok (.putfield 23, 3) := dt_Burst_start_c0 5
theorem d_Burst_start_10 : decode (jm_cod M_Burst_start) 10 = .ok (.aload_n 0, 1) := dt_Burst_start_c0 6
theorem d_Burst_start_11 : decode (jm_cod M_Burst_start) 11 = .ok (.iconst 0, 1) := dt_Burst_start_c0 7
theorem d_Burst_start_12 : decode (jm_cod M_Burst_start) 12 = .ok (.putfield 27, 3) := dt_Burst_start_c0 8
theorem d_Burst_start_15 : decode (jm_cod M_Burst_start) 15 = .ok (.aload_n 0, 1) := dt_Burst_start_c0 9
theorem d_Burst_start_16 : decode (jm_cod M_Burst_start) 16 = .ok (.iconst 0, 1) := dt_Burst_start_c0 10
theorem d_Burst_start_17 : decode (jm_cod M_Burst_start) 17 = .ok (.putfield 30, 3) := dt_Burst_start_c0 11
theorem d_Burst_start_20 : decode (jm_cod M_Burst_start) 20 = .ok (.aload_n 0, 1) := dt_Burst_start_c0 12
theorem d_Burst_start_21 : decode (jm_cod M_Burst_start) 21 = .ok (.iconst (-1), 1) := dt_Burst_start_c0 13
theorem d_Burst_start_22 : decode (jm_cod M_Burst_start) 22 = .ok (.putfield 34, 3) := dt_Burst_start_c0 14
theorem d_Burst_start_25 : decode (jm_cod M_Burst_start) 25 = .ok (.aload_n 0, 1) := dt_Burst_start_c0 15
theorem d_Burst_start_26 : decode (jm_cod M_Burst_start) 26 = .ok (.iconst 0, 1) := dt_Burst_start_c0 16
theorem d_Burst_start_27 : decode (jm_cod M_Burst_start) 27 = .ok (.putfield 37, 3) := dt_Burst_start_c0 17
theorem d_Burst_start_30 : decode (jm_cod M_Burst_start) 30 = .ok (.return_, 1) := dt_Burst_start_c0 18
def tab_Burst_fillWrite_c0 : List (Nat × Instr × Nat) := [(0, .lload_n 1, 1), (1, .lstore 4, 2), (3, .aload_n 0, 1), (4, .getfield 19, 3), (7, .invokestatic 60, 3), (10, .istore 6, 2), (12, .iconst 0, 1), (13, .istore 7, 2), (15, .iload 7, 2), (17, .iload 6, 2), (19, .if_icmp .ge 93, 3), (22, .ldc2_w 79, 3), (25, .lload 4, 2), (27, .lmul, 1), (28, .ldc2_w 81, 3), (31, .ladd, 1), (32, .lstore 4, 2), (34, .aload_n 0, 1), (35, .getfield 19, 3), (38, .iload 7, 2), (40, .invokestatic 83, 3), (43, .istore 8, 2), (45, .iload_n 3, 1), (46, .ifCond .eq 15, 3)]
theorem dt_Burst_fillWrite_c0 (i : Nat) : decode (jm_cod M_Burst_fillWrite) (tab_Burst_fillWrite_c0.getD i (0, .lload_n 1, 1)).1 = .ok ((tab_Burst_fillWrite_c0.getD i (0, .lload_n 1, 1)).2.1, (tab_Burst_fillWrite_c0.getD i (0, .lload_n 1, 1)).2.2) := j_tab (by decide +kernel) i
theorem d_Burst_fillWrite_0 : decode (jm_cod M_Burst_fillWrite) 0 = .ok (.lload_n 1, 1) := dt_Burst_fillWrite_c0 0
theorem d_Burst_fillWrite_1 : decode (jm_cod M_Burst_fillWrite) 1 = .ok (.lstore 4, 2) := dt_Burst_fillWrite_c0 1
theorem d_Burst_fillWrite_3 : decode (jm_cod M_Burst_fillWrite) 3 = .ok (.aload_n 0, 1) := dt_Burst_fillWrite_c0 2
theorem d_Burst_fillWrite_4 : decode (jm_cod M_Burst_fillWrite) 4 = .ok (.getfield 19, 3) := dt_Burst_fillWrite_c0 3
theorem d_Burst_fillWrite_7 : decode (jm_cod M_Burst_fillWrite) 7 = .ok (.invokestatic 60, 3) := dt_Burst_fillWrite_c0 4
theorem d_Burst_fillWrite_10 : decode (jm_cod M_Burst_fillWrite) 10 = .ok (.istore 6, 2) := dt_Burst_fillWrite_c0 5
theorem d_Burst_fillWrite_12 : decode (jm_cod M_Burst_fillWrite) 12 = .ok (.iconst 0, 1) := dt_Burst_fillWrite_c0 6
theorem d_Burst_fillWrite_13 : decode (jm_cod M_Burst_fillWrite) 13 = .ok (.istore 7, 2) := dt_Burst_fillWrite_c0 7
theorem d_Burst_fillWrite_15 : decode (jm_cod M_Burst_fillWrite) 15 = .ok (.iload 7, 2) := dt_Burst_fillWrite_c0 8
theorem d_Burst_fillWrite_17 : decode (jm_cod M_Burst_fillWrite) 17 = .ok (.iload 6, 2) := dt_Burst_fillWrite_c0 9
theorem d_Burst_fillWrite_19 : decode (jm_cod M_Burst_fillWrite) 19 = .ok (.if_icmp .ge 93, 3) := dt_Burst_fillWrite_c0 10
theorem d_Burst_fillWrite_22 : decode (jm_cod M_Burst_fillWrite) 22 = .ok (.ldc2_w 79, 3) := dt_Burst_fillWrite_c0 11
theorem d_Burst_fillWrite_25 : decode (jm_cod M_Burst_fillWrite) 25 = .ok (.lload 4, 2) := dt_Burst_fillWrite_c0 12
theorem d_Burst_fillWrite_27 : decode (jm_cod M_Burst_fillWrite) 27 = .ok (.lmul, 1) := dt_Burst_fillWrite_c0 13
theorem d_Burst_fillWrite_28 : decode (jm_cod M_Burst_fillWrite) 28 = .ok (.ldc2_w 81, 3) := dt_Burst_fillWrite_c0 14
theorem d_Burst_fillWrite_31 : decode (jm_cod M_Burst_fillWrite) 31 = .ok (.ladd, 1) := dt_Burst_fillWrite_c0 15
theorem d_Burst_fillWrite_32 : decode (jm_cod M_Burst_fillWrite) 32 = .ok (.lstore 4, 2) := dt_Burst_fillWrite_c0 16
theorem d_Burst_fillWrite_34 : decode (jm_cod M_Burst_fillWrite) 34 = .ok (.aload_n 0, 1) := dt_Burst_fillWrite_c0 17
theorem d_Burst_fillWrite_35 : decode (jm_cod M_Burst_fillWrite) 35 = .ok (.getfield 19, 3) := dt_Burst_fillWrite_c0 18
theorem d_Burst_fillWrite_38 : decode (jm_cod M_Burst_fillWrite) 38 = .ok (.iload 7, 2) := dt_Burst_fillWrite_c0 19
theorem d_Burst_fillWrite_40 : decode (jm_cod M_Burst_fillWrite) 40 = .ok (.invokestatic 83, 3) := dt_Burst_fillWrite_c0 20
theorem d_Burst_fillWrite_43 : decode (jm_cod M_Burst_fillWrite) 43 = .ok (.istore 8, 2) := dt_Burst_fillWrite_c0 21
theorem d_Burst_fillWrite_45 : decode (jm_cod M_Burst_fillWrite) 45 = .ok (.iload_n 3, 1) := dt_Burst_fillWrite_c0 22
theorem d_Burst_fillWrite_46 : decode (jm_cod M_Burst_fillWrite) 46 = .ok (.ifCond .eq 15, 3) := dt_Burst_fillWrite_c0 23
def tab_Burst_fillWrite_c1 : List (Nat × Instr × Nat) := [(49, .iload 8, 2), (51, .lload 4, 2), (53, .bipush 56, 2), (55, .lushr, 1), (56, .l2i, 1), (57, .iand, 1), (58, .goto 5, 3), (61, .iload 8, 2), (63, .istore 9, 2), (65, .aload_n 0, 1), (66, .getfield 9, 3), (69, .iload 7, 2), (71, .lload 4, 2), (73, .iload 8, 2), (75, .invokestatic 86, 3), (78, .land, 1), (79, .lastore, 1), (80, .aload_n 0, 1), (81, .getfield 15, 3), (84, .iload 7, 2), (86, .iload 9, 2), (88, .iload 7, 2), (90, .iload 6, 2), (92, .iconst 1, 1)]
theorem dt_Burst_fillWrite_c1 (i : Nat) : decode (jm_cod M_Burst_fillWrite) (tab_Burst_fillWrite_c1.getD i (49, .iload 8, 2)).1 = .ok ((tab_Burst_fillWrite_c1.getD i (49, .iload 8, 2)).2.1, (tab_Burst_fillWrite_c1.getD i (49, .iload 8, 2)).2.2) := j_tab (by decide +kernel) i
theorem d_Burst_fillWrite_49 : decode (jm_cod M_Burst_fillWrite) 49 = .ok (.iload 8, 2) := dt_Burst_fillWrite_c1 0
theorem d_Burst_fillWrite_51 : decode (jm_cod M_Burst_fillWrite) 51 = .ok (.lload 4, 2) := dt_Burst_fillWrite_c1 1
theorem d_Burst_fillWrite_53 : decode (jm_cod M_Burst_fillWrite) 53 = .ok (.bipush 56, 2) := dt_Burst_fillWrite_c1 2
theorem d_Burst_fillWrite_55 : decode (jm_cod M_Burst_fillWrite) 55 = .ok (.lushr, 1) := dt_Burst_fillWrite_c1 3
theorem d_Burst_fillWrite_56 : decode (jm_cod M_Burst_fillWrite) 56 = .ok (.l2i, 1) := dt_Burst_fillWrite_c1 4
theorem d_Burst_fillWrite_57 : decode (jm_cod M_Burst_fillWrite) 57 = .ok (.iand, 1) := dt_Burst_fillWrite_c1 5
theorem d_Burst_fillWrite_58 : decode (jm_cod M_Burst_fillWrite) 58 = .ok (.goto 5, 3) := dt_Burst_fillWrite_c1 6
theorem d_Burst_fillWrite_61 : decode (jm_cod M_Burst_fillWrite) 61 = .ok (.iload 8, 2) := dt_Burst_fillWrite_c1 7
theorem d_Burst_fillWrite_63 : decode (jm_cod M_Burst_fillWrite) 63 = .ok (.istore 9, 2) := dt_Burst_fillWrite_c1 8
theorem d_Burst_fillWrite_65 : decode (jm_cod M_Burst_fillWrite) 65 = .ok (.aload_n 0, 1) := dt_Burst_fillWrite_c1 9
theorem d_Burst_fillWrite_66 : decode (jm_cod M_Burst_fillWrite) 66 = .ok (.getfield 9, 3) := dt_Burst_fillWrite_c1 10
theorem d_Burst_fillWrite_69 : decode (jm_cod M_Burst_fillWrite) 69 = .ok (.iload 7, 2) := dt_Burst_fillWrite_c1 11
theorem d_Burst_fillWrite_71 : decode (jm_cod M_Burst_fillWrite) 71 = .ok (.lload 4, 2) := dt_Burst_fillWrite_c1 12
theorem d_Burst_fillWrite_73 : decode (jm_cod M_Burst_fillWrite) 73 = .ok (.iload 8, 2) := dt_Burst_fillWrite_c1 13
theorem d_Burst_fillWrite_75 : decode (jm_cod M_Burst_fillWrite) 75 = .ok (.invokestatic 86, 3) := dt_Burst_fillWrite_c1 14
theorem d_Burst_fillWrite_78 : decode (jm_cod M_Burst_fillWrite) 78 = .ok (.land, 1) := dt_Burst_fillWrite_c1 15
theorem d_Burst_fillWrite_79 : decode (jm_cod M_Burst_fillWrite) 79 = .ok (.lastore, 1) := dt_Burst_fillWrite_c1 16
theorem d_Burst_fillWrite_80 : decode (jm_cod M_Burst_fillWrite) 80 = .ok (.aload_n 0, 1) := dt_Burst_fillWrite_c1 17
theorem d_Burst_fillWrite_81 : decode (jm_cod M_Burst_fillWrite) 81 = .ok (.getfield 15, 3) := dt_Burst_fillWrite_c1 18
theorem d_Burst_fillWrite_84 : decode (jm_cod M_Burst_fillWrite) 84 = .ok (.iload 7, 2) := dt_Burst_fillWrite_c1 19
theorem d_Burst_fillWrite_86 : decode (jm_cod M_Burst_fillWrite) 86 = .ok (.iload 9, 2) := dt_Burst_fillWrite_c1 20
theorem d_Burst_fillWrite_88 : decode (jm_cod M_Burst_fillWrite) 88 = .ok (.iload 7, 2) := dt_Burst_fillWrite_c1 21
theorem d_Burst_fillWrite_90 : decode (jm_cod M_Burst_fillWrite) 90 = .ok (.iload 6, 2) := dt_Burst_fillWrite_c1 22
theorem d_Burst_fillWrite_92 : decode (jm_cod M_Burst_fillWrite) 92 = .ok (.iconst 1, 1) := dt_Burst_fillWrite_c1 23
def tab_Burst_fillWrite_c2 : List (Nat × Instr × Nat) := [(93, .isub, 1), (94, .if_icmp .ne 9, 3), (97, .sipush 256, 3), (100, .goto 4, 3), (103, .iconst 0, 1), (104, .iadd, 1), (105, .iastore, 1), (106, .iinc 7 1, 3), (109, .goto (-94), 3), (112, .return_, 1)]
theorem dt_Burst_fillWrite_c2 (i : Nat) : decode (jm_cod M_Burst_fillWrite) (tab_Burst_fillWrite_c2.getD i (93, .isub, 1)).1 = .ok ((tab_Burst_fillWrite_c2.getD i (93, .isub, 1)).2.1, (tab_Burst_fillWrite_c2.getD i (93, .isub, 1)).2.2) := j_tab (by decide +kernel) i
theorem d_Burst_fillWrite_93 : decode (jm_cod M_Burst_fillWrite) 93 = .ok (.isub, 1) := dt_Burst_fillWrite_c2 0
theorem d_Burst_fillWrite_94 : decode (jm_cod M_Burst_fillWrite) 94 = .ok (.if_icmp .ne 9, 3) := dt_Burst_fillWrite_c2 1
theorem d_Burst_fillWrite_97 : decode (jm_cod M_Burst_fillWrite) 97 = .ok (.sipush 256, 3) := dt_Burst_fillWrite_c2 2
theorem d_Burst_fillWrite_100 : decode (jm_cod M_Burst_fillWrite) 100 = .ok (.goto 4, 3) := dt_Burst_fillWrite_c2 3
theorem d_Burst_fillWrite_103 : decode (jm_cod M_Burst_fillWrite) 103 = .ok (.iconst 0, 1) := dt_Burst_fillWrite_c2 4
theorem d_Burst_fillWrite_104 : decode (jm_cod M_Burst_fillWrite) 104 = .ok (.iadd, 1) := dt_Burst_fillWrite_c2 5
theorem d_Burst_fillWrite_105 : decode (jm_cod M_Burst_fillWrite) 105 = .ok (.iastore, 1) := dt_Burst_fillWrite_c2 6
theorem d_Burst_fillWrite_106 : decode (jm_cod M_Burst_fillWrite) 106 = .ok (.iinc 7 1, 3) := dt_Burst_fillWrite_c2 7
theorem d_Burst_fillWrite_109 : decode (jm_cod M_Burst_fillWrite) 109 = .ok (.goto (-94), 3) := dt_Burst_fillWrite_c2 8
theorem d_Burst_fillWrite_112 : decode (jm_cod M_Burst_fillWrite) 112 = .ok (.return_, 1) := dt_Burst_fillWrite_c2 9
def tab_Burst_beatLanes_c0 : List (Nat × Instr × Nat) := [(0, .lload_n 0, 1), (1, .iload_n 2, 1), (2, .invokestatic 75, 3), (5, .istore_n 3, 1), (6, .lload_n 0, 1), (7, .invokestatic 66, 3), (10, .istore 4, 2), (12, .iload_n 3, 1), (13, .bipush 7, 2), (15, .iand, 1), (16, .istore 5, 2), (18, .iload_n 3, 1), (19, .iload_n 3, 1), (20, .iload 4, 2), (22, .irem, 1), (23, .isub, 1), (24, .iload 4, 2), (26, .iadd, 1), (27, .iconst 1, 1), (28, .isub, 1), (29, .bipush 7, 2), (31, .iand, 1), (32, .istore 6, 2), (34, .iconst 2, 1)]
theorem dt_Burst_beatLanes_c0 (i : Nat) : decode (jm_cod M_Burst_beatLanes) (tab_Burst_beatLanes_c0.getD i (0, .lload_n 0, 1)).1 = .ok ((tab_Burst_beatLanes_c0.getD i (0, .lload_n 0, 1)).2.1, (tab_Burst_beatLanes_c0.getD i (0, .lload_n 0, 1)).2.2) := j_tab (by decide +kernel) i
theorem d_Burst_beatLanes_0 : decode (jm_cod M_Burst_beatLanes) 0 = .ok (.lload_n 0, 1) := dt_Burst_beatLanes_c0 0
theorem d_Burst_beatLanes_1 : decode (jm_cod M_Burst_beatLanes) 1 = .ok (.iload_n 2, 1) := dt_Burst_beatLanes_c0 1
theorem d_Burst_beatLanes_2 : decode (jm_cod M_Burst_beatLanes) 2 = .ok (.invokestatic 75, 3) := dt_Burst_beatLanes_c0 2
theorem d_Burst_beatLanes_5 : decode (jm_cod M_Burst_beatLanes) 5 = .ok (.istore_n 3, 1) := dt_Burst_beatLanes_c0 3
theorem d_Burst_beatLanes_6 : decode (jm_cod M_Burst_beatLanes) 6 = .ok (.lload_n 0, 1) := dt_Burst_beatLanes_c0 4
theorem d_Burst_beatLanes_7 : decode (jm_cod M_Burst_beatLanes) 7 = .ok (.invokestatic 66, 3) := dt_Burst_beatLanes_c0 5
theorem d_Burst_beatLanes_10 : decode (jm_cod M_Burst_beatLanes) 10 = .ok (.istore 4, 2) := dt_Burst_beatLanes_c0 6
theorem d_Burst_beatLanes_12 : decode (jm_cod M_Burst_beatLanes) 12 = .ok (.iload_n 3, 1) := dt_Burst_beatLanes_c0 7
theorem d_Burst_beatLanes_13 : decode (jm_cod M_Burst_beatLanes) 13 = .ok (.bipush 7, 2) := dt_Burst_beatLanes_c0 8
theorem d_Burst_beatLanes_15 : decode (jm_cod M_Burst_beatLanes) 15 = .ok (.iand, 1) := dt_Burst_beatLanes_c0 9
theorem d_Burst_beatLanes_16 : decode (jm_cod M_Burst_beatLanes) 16 = .ok (.istore 5, 2) := dt_Burst_beatLanes_c0 10
theorem d_Burst_beatLanes_18 : decode (jm_cod M_Burst_beatLanes) 18 = .ok (.iload_n 3, 1) := dt_Burst_beatLanes_c0 11
theorem d_Burst_beatLanes_19 : decode (jm_cod M_Burst_beatLanes) 19 = .ok (.iload_n 3, 1) := dt_Burst_beatLanes_c0 12
theorem d_Burst_beatLanes_20 : decode (jm_cod M_Burst_beatLanes) 20 = .ok (.iload 4, 2) := dt_Burst_beatLanes_c0 13
theorem d_Burst_beatLanes_22 : decode (jm_cod M_Burst_beatLanes) 22 = .ok (.irem, 1) := dt_Burst_beatLanes_c0 14
theorem d_Burst_beatLanes_23 : decode (jm_cod M_Burst_beatLanes) 23 = .ok (.isub, 1) := dt_Burst_beatLanes_c0 15
theorem d_Burst_beatLanes_24 : decode (jm_cod M_Burst_beatLanes) 24 = .ok (.iload 4, 2) := dt_Burst_beatLanes_c0 16
theorem d_Burst_beatLanes_26 : decode (jm_cod M_Burst_beatLanes) 26 = .ok (.iadd, 1) := dt_Burst_beatLanes_c0 17
theorem d_Burst_beatLanes_27 : decode (jm_cod M_Burst_beatLanes) 27 = .ok (.iconst 1, 1) := dt_Burst_beatLanes_c0 18
theorem d_Burst_beatLanes_28 : decode (jm_cod M_Burst_beatLanes) 28 = .ok (.isub, 1) := dt_Burst_beatLanes_c0 19
theorem d_Burst_beatLanes_29 : decode (jm_cod M_Burst_beatLanes) 29 = .ok (.bipush 7, 2) := dt_Burst_beatLanes_c0 20
theorem d_Burst_beatLanes_31 : decode (jm_cod M_Burst_beatLanes) 31 = .ok (.iand, 1) := dt_Burst_beatLanes_c0 21
theorem d_Burst_beatLanes_32 : decode (jm_cod M_Burst_beatLanes) 32 = .ok (.istore 6, 2) := dt_Burst_beatLanes_c0 22
theorem d_Burst_beatLanes_34 : decode (jm_cod M_Burst_beatLanes) 34 = .ok (.iconst 2, 1) := dt_Burst_beatLanes_c0 23
def tab_Burst_beatLanes_c1 : List (Nat × Instr × Nat) := [(35, .iload 6, 2), (37, .ishl, 1), (38, .iconst 1, 1), (39, .iload 5, 2), (41, .ishl, 1), (42, .isub, 1), (43, .ireturn, 1)]
theorem dt_Burst_beatLanes_c1 (i : Nat) : decode (jm_cod M_Burst_beatLanes) (tab_Burst_beatLanes_c1.getD i (35, .iload 6, 2)).1 = .ok ((tab_Burst_beatLanes_c1.getD i (35, .iload 6, 2)).2.1, (tab_Burst_beatLanes_c1.getD i (35, .iload 6, 2)).2.2) := j_tab (by decide +kernel) i
theorem d_Burst_beatLanes_35 : decode (jm_cod M_Burst_beatLanes) 35 = .ok (.iload 6, 2) := dt_Burst_beatLanes_c1 0
theorem d_Burst_beatLanes_37 : decode (jm_cod M_Burst_beatLanes) 37 = .ok (.ishl, 1) := dt_Burst_beatLanes_c1 1
theorem d_Burst_beatLanes_38 : decode (jm_cod M_Burst_beatLanes) 38 = .ok (.iconst 1, 1) := dt_Burst_beatLanes_c1 2
theorem d_Burst_beatLanes_39 : decode (jm_cod M_Burst_beatLanes) 39 = .ok (.iload 5, 2) := dt_Burst_beatLanes_c1 3
theorem d_Burst_beatLanes_41 : decode (jm_cod M_Burst_beatLanes) 41 = .ok (.ishl, 1) := dt_Burst_beatLanes_c1 4
theorem d_Burst_beatLanes_42 : decode (jm_cod M_Burst_beatLanes) 42 = .ok (.isub, 1) := dt_Burst_beatLanes_c1 5
theorem d_Burst_beatLanes_43 : decode (jm_cod M_Burst_beatLanes) 43 = .ok (.ireturn, 1) := dt_Burst_beatLanes_c1 6
def tab_Burst_beatAddress_c0 : List (Nat × Instr × Nat) := [(0, .lload_n 0, 1), (1, .invokestatic 63, 3), (4, .istore_n 3, 1), (5, .lload_n 0, 1), (6, .invokestatic 66, 3), (9, .istore 4, 2), (11, .lload_n 0, 1), (12, .invokestatic 43, 3), (15, .istore 5, 2), (17, .iload 5, 2), (19, .iconst 1, 1), (20, .if_icmp .ne 19, 3), (23, .iload_n 2, 1), (24, .ifCond .le 15, 3), (27, .iload_n 3, 1), (28, .iload_n 3, 1), (29, .iload 4, 2), (31, .irem, 1), (32, .isub, 1), (33, .iload_n 2, 1), (34, .iload 4, 2), (36, .imul, 1), (37, .iadd, 1), (38, .ireturn, 1)]
theorem dt_Burst_beatAddress_c0 (i : Nat) : decode (jm_cod M_Burst_beatAddress) (tab_Burst_beatAddress_c0.getD i (0, .lload_n 0, 1)).1 = .ok ((tab_Burst_beatAddress_c0.getD i (0, .lload_n 0, 1)).2.1, (tab_Burst_beatAddress_c0.getD i (0, .lload_n 0, 1)).2.2) := j_tab (by decide +kernel) i
theorem d_Burst_beatAddress_0 : decode (jm_cod M_Burst_beatAddress) 0 = .ok (.lload_n 0, 1) := dt_Burst_beatAddress_c0 0
theorem d_Burst_beatAddress_1 : decode (jm_cod M_Burst_beatAddress) 1 = .ok (.invokestatic 63, 3) := dt_Burst_beatAddress_c0 1
theorem d_Burst_beatAddress_4 : decode (jm_cod M_Burst_beatAddress) 4 = .ok (.istore_n 3, 1) := dt_Burst_beatAddress_c0 2
theorem d_Burst_beatAddress_5 : decode (jm_cod M_Burst_beatAddress) 5 = .ok (.lload_n 0, 1) := dt_Burst_beatAddress_c0 3
theorem d_Burst_beatAddress_6 : decode (jm_cod M_Burst_beatAddress) 6 = .ok (.invokestatic 66, 3) := dt_Burst_beatAddress_c0 4
theorem d_Burst_beatAddress_9 : decode (jm_cod M_Burst_beatAddress) 9 = .ok (.istore 4, 2) := dt_Burst_beatAddress_c0 5
theorem d_Burst_beatAddress_11 : decode (jm_cod M_Burst_beatAddress) 11 = .ok (.lload_n 0, 1) := dt_Burst_beatAddress_c0 6
theorem d_Burst_beatAddress_12 : decode (jm_cod M_Burst_beatAddress) 12 = .ok (.invokestatic 43, 3) := dt_Burst_beatAddress_c0 7
theorem d_Burst_beatAddress_15 : decode (jm_cod M_Burst_beatAddress) 15 = .ok (.istore 5, 2) := dt_Burst_beatAddress_c0 8
theorem d_Burst_beatAddress_17 : decode (jm_cod M_Burst_beatAddress) 17 = .ok (.iload 5, 2) := dt_Burst_beatAddress_c0 9
theorem d_Burst_beatAddress_19 : decode (jm_cod M_Burst_beatAddress) 19 = .ok (.iconst 1, 1) := dt_Burst_beatAddress_c0 10
theorem d_Burst_beatAddress_20 : decode (jm_cod M_Burst_beatAddress) 20 = .ok (.if_icmp .ne 19, 3) := dt_Burst_beatAddress_c0 11
theorem d_Burst_beatAddress_23 : decode (jm_cod M_Burst_beatAddress) 23 = .ok (.iload_n 2, 1) := dt_Burst_beatAddress_c0 12
theorem d_Burst_beatAddress_24 : decode (jm_cod M_Burst_beatAddress) 24 = .ok (.ifCond .le 15, 3) := dt_Burst_beatAddress_c0 13
theorem d_Burst_beatAddress_27 : decode (jm_cod M_Burst_beatAddress) 27 = .ok (.iload_n 3, 1) := dt_Burst_beatAddress_c0 14
theorem d_Burst_beatAddress_28 : decode (jm_cod M_Burst_beatAddress) 28 = .ok (.iload_n 3, 1) := dt_Burst_beatAddress_c0 15
theorem d_Burst_beatAddress_29 : decode (jm_cod M_Burst_beatAddress) 29 = .ok (.iload 4, 2) := dt_Burst_beatAddress_c0 16
theorem d_Burst_beatAddress_31 : decode (jm_cod M_Burst_beatAddress) 31 = .ok (.irem, 1) := dt_Burst_beatAddress_c0 17
theorem d_Burst_beatAddress_32 : decode (jm_cod M_Burst_beatAddress) 32 = .ok (.isub, 1) := dt_Burst_beatAddress_c0 18
theorem d_Burst_beatAddress_33 : decode (jm_cod M_Burst_beatAddress) 33 = .ok (.iload_n 2, 1) := dt_Burst_beatAddress_c0 19
theorem d_Burst_beatAddress_34 : decode (jm_cod M_Burst_beatAddress) 34 = .ok (.iload 4, 2) := dt_Burst_beatAddress_c0 20
theorem d_Burst_beatAddress_36 : decode (jm_cod M_Burst_beatAddress) 36 = .ok (.imul, 1) := dt_Burst_beatAddress_c0 21
theorem d_Burst_beatAddress_37 : decode (jm_cod M_Burst_beatAddress) 37 = .ok (.iadd, 1) := dt_Burst_beatAddress_c0 22
theorem d_Burst_beatAddress_38 : decode (jm_cod M_Burst_beatAddress) 38 = .ok (.ireturn, 1) := dt_Burst_beatAddress_c0 23
def tab_Burst_beatAddress_c1 : List (Nat × Instr × Nat) := [(39, .iload 5, 2), (41, .iconst 2, 1), (42, .if_icmp .ne 36, 3), (45, .lload_n 0, 1), (46, .invokestatic 60, 3), (49, .iload 4, 2), (51, .imul, 1), (52, .istore 6, 2), (54, .iload_n 3, 1), (55, .iload_n 3, 1), (56, .iload 6, 2), (58, .irem, 1), (59, .isub, 1), (60, .istore 7, 2), (62, .iload 7, 2), (64, .iload_n 3, 1), (65, .iload 7, 2), (67, .isub, 1), (68, .iload_n 2, 1), (69, .iload 4, 2), (71, .imul, 1), (72, .iadd, 1), (73, .iload 6, 2), (75, .irem, 1)]
theorem dt_Burst_beatAddress_c1 (i : Nat) : decode (jm_cod M_Burst_beatAddress) (tab_Burst_beatAddress_c1.getD i (39, .iload 5, 2)).1 = .ok ((tab_Burst_beatAddress_c1.getD i (39, .iload 5, 2)).2.1, (tab_Burst_beatAddress_c1.getD i (39, .iload 5, 2)).2.2) := j_tab (by decide +kernel) i
theorem d_Burst_beatAddress_39 : decode (jm_cod M_Burst_beatAddress) 39 = .ok (.iload 5, 2) := dt_Burst_beatAddress_c1 0
theorem d_Burst_beatAddress_41 : decode (jm_cod M_Burst_beatAddress) 41 = .ok (.iconst 2, 1) := dt_Burst_beatAddress_c1 1
theorem d_Burst_beatAddress_42 : decode (jm_cod M_Burst_beatAddress) 42 = .ok (.if_icmp .ne 36, 3) := dt_Burst_beatAddress_c1 2
theorem d_Burst_beatAddress_45 : decode (jm_cod M_Burst_beatAddress) 45 = .ok (.lload_n 0, 1) := dt_Burst_beatAddress_c1 3
theorem d_Burst_beatAddress_46 : decode (jm_cod M_Burst_beatAddress) 46 = .ok (.invokestatic 60, 3) := dt_Burst_beatAddress_c1 4
theorem d_Burst_beatAddress_49 : decode (jm_cod M_Burst_beatAddress) 49 = .ok (.iload 4, 2) := dt_Burst_beatAddress_c1 5
theorem d_Burst_beatAddress_51 : decode (jm_cod M_Burst_beatAddress) 51 = .ok (.imul, 1) := dt_Burst_beatAddress_c1 6
theorem d_Burst_beatAddress_52 : decode (jm_cod M_Burst_beatAddress) 52 = .ok (.istore 6, 2) := dt_Burst_beatAddress_c1 7
theorem d_Burst_beatAddress_54 : decode (jm_cod M_Burst_beatAddress) 54 = .ok (.iload_n 3, 1) := dt_Burst_beatAddress_c1 8
theorem d_Burst_beatAddress_55 : decode (jm_cod M_Burst_beatAddress) 55 = .ok (.iload_n 3, 1) := dt_Burst_beatAddress_c1 9
theorem d_Burst_beatAddress_56 : decode (jm_cod M_Burst_beatAddress) 56 = .ok (.iload 6, 2) := dt_Burst_beatAddress_c1 10
theorem d_Burst_beatAddress_58 : decode (jm_cod M_Burst_beatAddress) 58 = .ok (.irem, 1) := dt_Burst_beatAddress_c1 11
theorem d_Burst_beatAddress_59 : decode (jm_cod M_Burst_beatAddress) 59 = .ok (.isub, 1) := dt_Burst_beatAddress_c1 12
theorem d_Burst_beatAddress_60 : decode (jm_cod M_Burst_beatAddress) 60 = .ok (.istore 7, 2) := dt_Burst_beatAddress_c1 13
theorem d_Burst_beatAddress_62 : decode (jm_cod M_Burst_beatAddress) 62 = .ok (.iload 7, 2) := dt_Burst_beatAddress_c1 14
theorem d_Burst_beatAddress_64 : decode (jm_cod M_Burst_beatAddress) 64 = .ok (.iload_n 3, 1) := dt_Burst_beatAddress_c1 15
theorem d_Burst_beatAddress_65 : decode (jm_cod M_Burst_beatAddress) 65 = .ok (.iload 7, 2) := dt_Burst_beatAddress_c1 16
theorem d_Burst_beatAddress_67 : decode (jm_cod M_Burst_beatAddress) 67 = .ok (.isub, 1) := dt_Burst_beatAddress_c1 17
theorem d_Burst_beatAddress_68 : decode (jm_cod M_Burst_beatAddress) 68 = .ok (.iload_n 2, 1) := dt_Burst_beatAddress_c1 18
theorem d_Burst_beatAddress_69 : decode (jm_cod M_Burst_beatAddress) 69 = .ok (.iload 4, 2) := dt_Burst_beatAddress_c1 19
theorem d_Burst_beatAddress_71 : decode (jm_cod M_Burst_beatAddress) 71 = .ok (.imul, 1) := dt_Burst_beatAddress_c1 20
theorem d_Burst_beatAddress_72 : decode (jm_cod M_Burst_beatAddress) 72 = .ok (.iadd, 1) := dt_Burst_beatAddress_c1 21
theorem d_Burst_beatAddress_73 : decode (jm_cod M_Burst_beatAddress) 73 = .ok (.iload 6, 2) := dt_Burst_beatAddress_c1 22
theorem d_Burst_beatAddress_75 : decode (jm_cod M_Burst_beatAddress) 75 = .ok (.irem, 1) := dt_Burst_beatAddress_c1 23
def tab_Burst_beatAddress_c2 : List (Nat × Instr × Nat) := [(76, .iadd, 1), (77, .ireturn, 1), (78, .iload_n 3, 1), (79, .ireturn, 1)]
theorem dt_Burst_beatAddress_c2 (i : Nat) : decode (jm_cod M_Burst_beatAddress) (tab_Burst_beatAddress_c2.getD i (76, .iadd, 1)).1 = .ok ((tab_Burst_beatAddress_c2.getD i (76, .iadd, 1)).2.1, (tab_Burst_beatAddress_c2.getD i (76, .iadd, 1)).2.2) := j_tab (by decide +kernel) i
theorem d_Burst_beatAddress_76 : decode (jm_cod M_Burst_beatAddress) 76 = .ok (.iadd, 1) := dt_Burst_beatAddress_c2 0
theorem d_Burst_beatAddress_77 : decode (jm_cod M_Burst_beatAddress) 77 = .ok (.ireturn, 1) := dt_Burst_beatAddress_c2 1
theorem d_Burst_beatAddress_78 : decode (jm_cod M_Burst_beatAddress) 78 = .ok (.iload_n 3, 1) := dt_Burst_beatAddress_c2 2
theorem d_Burst_beatAddress_79 : decode (jm_cod M_Burst_beatAddress) 79 = .ok (.ireturn, 1) := dt_Burst_beatAddress_c2 3
def tab_Burst_idOf_c0 : List (Nat × Instr × Nat) := [(0, .lload_n 0, 1), (1, .l2i, 1), (2, .bipush 63, 2), (4, .iand, 1), (5, .ireturn, 1)]
theorem dt_Burst_idOf_c0 (i : Nat) : decode (jm_cod M_Burst_idOf) (tab_Burst_idOf_c0.getD i (0, .lload_n 0, 1)).1 = .ok ((tab_Burst_idOf_c0.getD i (0, .lload_n 0, 1)).2.1, (tab_Burst_idOf_c0.getD i (0, .lload_n 0, 1)).2.2) := j_tab (by decide +kernel) i
theorem d_Burst_idOf_0 : decode (jm_cod M_Burst_idOf) 0 = .ok (.lload_n 0, 1) := dt_Burst_idOf_c0 0
theorem d_Burst_idOf_1 : decode (jm_cod M_Burst_idOf) 1 = .ok (.l2i, 1) := dt_Burst_idOf_c0 1
theorem d_Burst_idOf_2 : decode (jm_cod M_Burst_idOf) 2 = .ok (.bipush 63, 2) := dt_Burst_idOf_c0 2
theorem d_Burst_idOf_4 : decode (jm_cod M_Burst_idOf) 4 = .ok (.iand, 1) := dt_Burst_idOf_c0 3
theorem d_Burst_idOf_5 : decode (jm_cod M_Burst_idOf) 5 = .ok (.ireturn, 1) := dt_Burst_idOf_c0 4
def tab_Burst_takeBeat_c0 : List (Nat × Instr × Nat) := [(0, .aload_n 0, 1), (1, .getfield 30, 3), (4, .bipush 16, 2), (6, .if_icmp .ge 33, 3), (9, .aload_n 0, 1), (10, .getfield 9, 3), (13, .aload_n 0, 1), (14, .getfield 30, 3), (17, .lload_n 1, 1), (18, .lastore, 1), (19, .aload_n 0, 1), (20, .getfield 15, 3), (23, .aload_n 0, 1), (24, .getfield 30, 3), (27, .iload_n 3, 1), (28, .iastore, 1), (29, .aload_n 0, 1), (30, .dup, 1), (31, .getfield 30, 3), (34, .iconst 1, 1), (35, .iadd, 1), (36, .putfield 30, 3), (39, .return_, 1)]
theorem dt_Burst_takeBeat_c0 (i : Nat) : decode (jm_cod M_Burst_takeBeat) (tab_Burst_takeBeat_c0.getD i (0, .aload_n 0, 1)).1 = .ok ((tab_Burst_takeBeat_c0.getD i (0, .aload_n 0, 1)).2.1, (tab_Burst_takeBeat_c0.getD i (0, .aload_n 0, 1)).2.2) := j_tab (by decide +kernel) i
theorem d_Burst_takeBeat_0 : decode (jm_cod M_Burst_takeBeat) 0 = .ok (.aload_n 0, 1) := dt_Burst_takeBeat_c0 0
theorem d_Burst_takeBeat_1 : decode (jm_cod M_Burst_takeBeat) 1 = .ok (.getfield 30, 3) := dt_Burst_takeBeat_c0 1
theorem d_Burst_takeBeat_4 : decode (jm_cod M_Burst_takeBeat) 4 = .ok (.bipush 16, 2) := dt_Burst_takeBeat_c0 2
theorem d_Burst_takeBeat_6 : decode (jm_cod M_Burst_takeBeat) 6 = .ok (.if_icmp .ge 33, 3) := dt_Burst_takeBeat_c0 3
theorem d_Burst_takeBeat_9 : decode (jm_cod M_Burst_takeBeat) 9 = .ok (.aload_n 0, 1) := dt_Burst_takeBeat_c0 4
theorem d_Burst_takeBeat_10 : decode (jm_cod M_Burst_takeBeat) 10 = .ok (.getfield 9, 3) := dt_Burst_takeBeat_c0 5
theorem d_Burst_takeBeat_13 : decode (jm_cod M_Burst_takeBeat) 13 = .ok (.aload_n 0, 1) := dt_Burst_takeBeat_c0 6
theorem d_Burst_takeBeat_14 : decode (jm_cod M_Burst_takeBeat) 14 = .ok (.getfield 30, 3) := dt_Burst_takeBeat_c0 7
theorem d_Burst_takeBeat_17 : decode (jm_cod M_Burst_takeBeat) 17 = .ok (.lload_n 1, 1) := dt_Burst_takeBeat_c0 8
theorem d_Burst_takeBeat_18 : decode (jm_cod M_Burst_takeBeat) 18 = .ok (.lastore, 1) := dt_Burst_takeBeat_c0 9
theorem d_Burst_takeBeat_19 : decode (jm_cod M_Burst_takeBeat) 19 = .ok (.aload_n 0, 1) := dt_Burst_takeBeat_c0 10
theorem d_Burst_takeBeat_20 : decode (jm_cod M_Burst_takeBeat) 20 = .ok (.getfield 15, 3) := dt_Burst_takeBeat_c0 11
theorem d_Burst_takeBeat_23 : decode (jm_cod M_Burst_takeBeat) 23 = .ok (.aload_n 0, 1) := dt_Burst_takeBeat_c0 12
theorem d_Burst_takeBeat_24 : decode (jm_cod M_Burst_takeBeat) 24 = .ok (.getfield 30, 3) := dt_Burst_takeBeat_c0 13
theorem d_Burst_takeBeat_27 : decode (jm_cod M_Burst_takeBeat) 27 = .ok (.iload_n 3, 1) := dt_Burst_takeBeat_c0 14
theorem d_Burst_takeBeat_28 : decode (jm_cod M_Burst_takeBeat) 28 = .ok (.iastore, 1) := dt_Burst_takeBeat_c0 15
theorem d_Burst_takeBeat_29 : decode (jm_cod M_Burst_takeBeat) 29 = .ok (.aload_n 0, 1) := dt_Burst_takeBeat_c0 16
theorem d_Burst_takeBeat_30 : decode (jm_cod M_Burst_takeBeat) 30 = .ok (.dup, 1) := dt_Burst_takeBeat_c0 17
theorem d_Burst_takeBeat_31 : decode (jm_cod M_Burst_takeBeat) 31 = .ok (.getfield 30, 3) := dt_Burst_takeBeat_c0 18
theorem d_Burst_takeBeat_34 : decode (jm_cod M_Burst_takeBeat) 34 = .ok (.iconst 1, 1) := dt_Burst_takeBeat_c0 19
theorem d_Burst_takeBeat_35 : decode (jm_cod M_Burst_takeBeat) 35 = .ok (.iadd, 1) := dt_Burst_takeBeat_c0 20
theorem d_Burst_takeBeat_36 : decode (jm_cod M_Burst_takeBeat) 36 = .ok (.putfield 30, 3) := dt_Burst_takeBeat_c0 21
theorem d_Burst_takeBeat_39 : decode (jm_cod M_Burst_takeBeat) 39 = .ok (.return_, 1) := dt_Burst_takeBeat_c0 22
def tab_Burst_urgencyOf_c0 : List (Nat × Instr × Nat) := [(0, .lload_n 0, 1), (1, .bipush 31, 2), (3, .lshr, 1), (4, .l2i, 1), (5, .bipush 15, 2), (7, .iand, 1), (8, .ireturn, 1)]
theorem dt_Burst_urgencyOf_c0 (i : Nat) : decode (jm_cod M_Burst_urgencyOf) (tab_Burst_urgencyOf_c0.getD i (0, .lload_n 0, 1)).1 = .ok ((tab_Burst_urgencyOf_c0.getD i (0, .lload_n 0, 1)).2.1, (tab_Burst_urgencyOf_c0.getD i (0, .lload_n 0, 1)).2.2) := j_tab (by decide +kernel) i
theorem d_Burst_urgencyOf_0 : decode (jm_cod M_Burst_urgencyOf) 0 = .ok (.lload_n 0, 1) := dt_Burst_urgencyOf_c0 0
theorem d_Burst_urgencyOf_1 : decode (jm_cod M_Burst_urgencyOf) 1 = .ok (.bipush 31, 2) := dt_Burst_urgencyOf_c0 1
theorem d_Burst_urgencyOf_3 : decode (jm_cod M_Burst_urgencyOf) 3 = .ok (.lshr, 1) := dt_Burst_urgencyOf_c0 2
theorem d_Burst_urgencyOf_4 : decode (jm_cod M_Burst_urgencyOf) 4 = .ok (.l2i, 1) := dt_Burst_urgencyOf_c0 3
theorem d_Burst_urgencyOf_5 : decode (jm_cod M_Burst_urgencyOf) 5 = .ok (.bipush 15, 2) := dt_Burst_urgencyOf_c0 4
theorem d_Burst_urgencyOf_7 : decode (jm_cod M_Burst_urgencyOf) 7 = .ok (.iand, 1) := dt_Burst_urgencyOf_c0 5
theorem d_Burst_urgencyOf_8 : decode (jm_cod M_Burst_urgencyOf) 8 = .ok (.ireturn, 1) := dt_Burst_urgencyOf_c0 6
