def tab_Monitor_init_c0 : List (Nat × Instr × Nat) := [(0, .aload_n 0, 1), (1, .invokespecial 3, 3), (4, .aload_n 0, 1), (5, .new 9, 3), (8, .dup, 1), (9, .bipush 16, 2), (11, .invokespecial 11, 3), (14, .putfield 14, 3), (17, .aload_n 0, 1), (18, .new 9, 3), (21, .dup, 1), (22, .bipush 16, 2), (24, .invokespecial 11, 3), (27, .putfield 20, 3), (30, .aload_n 0, 1), (31, .iconst 5, 1), (32, .newarray .boolean, 2), (34, .putfield 23, 3), (37, .aload_n 0, 1), (38, .iconst 5, 1), (39, .newarray .long, 2), (41, .putfield 27, 3), (44, .aload_n 0, 1), (45, .iconst 5, 1)]
theorem dt_Monitor_init_c0 (i : Nat) : decode (jm_cod M_Monitor_init) (tab_Monitor_init_c0.getD i (0, .aload_n 0, 1)).1 = .ok ((tab_Monitor_init_c0.getD i (0, .aload_n 0, 1)).2.1, (tab_Monitor_init_c0.getD i (0, .aload_n 0, 1)).2.2) := j_tab (by decide +kernel) i
theorem d_Monitor_init_0 : decode (jm_cod M_Monitor_init) 0 = .ok (.aload_n 0, 1) := dt_Monitor_init_c0 0
theorem d_Monitor_init_1 : decode (jm_cod M_Monitor_init) 1 = .ok (.invokespecial 3, 3) := dt_Monitor_init_c0 1
theorem d_Monitor_init_4 : decode (jm_cod M_Monitor_init) 4 = .ok (.aload_n 0, 1) := dt_Monitor_init_c0 2
theorem d_Monitor_init_5 : decode (jm_cod M_Monitor_init) 5 = .ok (.new 9, 3) := dt_Monitor_init_c0 3
theorem d_Monitor_init_8 : decode (jm_cod M_Monitor_init) 8 = .ok (.dup, 1) := dt_Monitor_init_c0 4
theorem d_Monitor_init_9 : decode (jm_cod M_Monitor_init) 9 = .ok (.bipush 16, 2) := dt_Monitor_init_c0 5
theorem d_Monitor_init_11 : decode (jm_cod M_Monitor_init) 11 = .ok (.invokespecial 11, 3) := dt_Monitor_init_c0 6
theorem d_Monitor_init_14 : decode (jm_cod M_Monitor_init) 14 = .ok (.putfield 14, 3) := dt_Monitor_init_c0 7
theorem d_Monitor_init_17 : decode (jm_cod M_Monitor_init) 17 = .ok (.aload_n 0, 1) := dt_Monitor_init_c0 8
theorem d_Monitor_init_18 : decode (jm_cod M_Monitor_init) 18 = .ok (.new 9, 3) := dt_Monitor_init_c0 9
theorem d_Monitor_init_21 : decode (jm_cod M_Monitor_init) 21 = .ok (.dup, 1) := dt_Monitor_init_c0 10
theorem d_Monitor_init_22 : decode (jm_cod M_Monitor_init) 22 = .ok (.bipush 16, 2) := dt_Monitor_init_c0 11
theorem d_Monitor_init_24 : decode (jm_cod M_Monitor_init) 24 = .ok (.invokespecial 11, 3) := dt_Monitor_init_c0 12
theorem d_Monitor_init_27 : decode (jm_cod M_Monitor_init) 27 = .ok (.putfield 20, 3) := dt_Monitor_init_c0 13
theorem d_Monitor_init_30 : decode (jm_cod M_Monitor_init) 30 = .ok (.aload_n 0, 1) := dt_Monitor_init_c0 14
theorem d_Monitor_init_31 : decode (jm_cod M_Monitor_init) 31 = .ok (.iconst 5, 1) := dt_Monitor_init_c0 15
theorem d_Monitor_init_32 : decode (jm_cod M_Monitor_init) 32 = .ok (.newarray .boolean, 2) := dt_Monitor_init_c0 16
theorem d_Monitor_init_34 : decode (jm_cod M_Monitor_init) 34 = .ok (.putfield 23, 3) := dt_Monitor_init_c0 17
theorem d_Monitor_init_37 : decode (jm_cod M_Monitor_init) 37 = .ok (.aload_n 0, 1) := dt_Monitor_init_c0 18
theorem d_Monitor_init_38 : decode (jm_cod M_Monitor_init) 38 = .ok (.iconst 5, 1) := dt_Monitor_init_c0 19
theorem d_Monitor_init_39 : decode (jm_cod M_Monitor_init) 39 = .ok (.newarray .long, 2) := dt_Monitor_init_c0 20
theorem d_Monitor_init_41 : decode (jm_cod M_Monitor_init) 41 = .ok (.putfield 27, 3) := dt_Monitor_init_c0 21
theorem d_Monitor_init_44 : decode (jm_cod M_Monitor_init) 44 = .ok (.aload_n 0, 1) := dt_Monitor_init_c0 22
theorem d_Monitor_init_45 : decode (jm_cod M_Monitor_init) 45 = .ok (.iconst 5, 1) := dt_Monitor_init_c0 23
def tab_Monitor_init_c1 : List (Nat × Instr × Nat) := [(46, .newarray .int, 2), (48, .putfield 31, 3), (51, .aload_n 0, 1), (52, .iconst (-1), 1), (53, .putfield 35, 3), (56, .aload_n 0, 1), (57, .iconst (-1), 1), (58, .putfield 39, 3), (61, .return_, 1)]
theorem dt_Monitor_init_c1 (i : Nat) : decode (jm_cod M_Monitor_init) (tab_Monitor_init_c1.getD i (46, .newarray .int, 2)).1 = .ok ((tab_Monitor_init_c1.getD i (46, .newarray .int, 2)).2.1, (tab_Monitor_init_c1.getD i (46, .newarray .int, 2)).2.2) := j_tab (by decide +kernel) i
theorem d_Monitor_init_46 : decode (jm_cod M_Monitor_init) 46 = .ok (.newarray .int, 2) := dt_Monitor_init_c1 0
theorem d_Monitor_init_48 : decode (jm_cod M_Monitor_init) 48 = .ok (.putfield 31, 3) := dt_Monitor_init_c1 1
theorem d_Monitor_init_51 : decode (jm_cod M_Monitor_init) 51 = .ok (.aload_n 0, 1) := dt_Monitor_init_c1 2
theorem d_Monitor_init_52 : decode (jm_cod M_Monitor_init) 52 = .ok (.iconst (-1), 1) := dt_Monitor_init_c1 3
theorem d_Monitor_init_53 : decode (jm_cod M_Monitor_init) 53 = .ok (.putfield 35, 3) := dt_Monitor_init_c1 4
theorem d_Monitor_init_56 : decode (jm_cod M_Monitor_init) 56 = .ok (.aload_n 0, 1) := dt_Monitor_init_c1 5
theorem d_Monitor_init_57 : decode (jm_cod M_Monitor_init) 57 = .ok (.iconst (-1), 1) := dt_Monitor_init_c1 6
theorem d_Monitor_init_58 : decode (jm_cod M_Monitor_init) 58 = .ok (.putfield 39, 3) := dt_Monitor_init_c1 7
theorem d_Monitor_init_61 : decode (jm_cod M_Monitor_init) 61 = .ok (.return_, 1) := dt_Monitor_init_c1 8
def tab_Monitor_reset_c0 : List (Nat × Instr × Nat) := [(0, .aload_n 0, 1), (1, .getfield 14, 3), (4, .iconst 0, 1), (5, .putfield 42, 3), (8, .aload_n 0, 1), (9, .getfield 20, 3), (12, .iconst 0, 1), (13, .putfield 42, 3), (16, .iconst 0, 1), (17, .istore_n 1, 1), (18, .iload_n 1, 1), (19, .iconst 5, 1), (20, .if_icmp .ge 16, 3), (23, .aload_n 0, 1), (24, .getfield 23, 3), (27, .iload_n 1, 1), (28, .iconst 0, 1), (29, .bastore, 1), (30, .iinc 1 1, 3), (33, .goto (-15), 3), (36, .aload_n 0, 1), (37, .iconst 0, 1), (38, .putfield 45, 3), (41, .aload_n 0, 1)]
theorem dt_Monitor_reset_c0 (i : Nat) : decode (jm_cod M_Monitor_reset) (tab_Monitor_reset_c0.getD i (0, .aload_n 0, 1)).1 = .ok ((tab_Monitor_reset_c0.getD i (0, .aload_n 0, 1)).2.1, (tab_Monitor_reset_c0.getD i (0, .aload_n 0, 1)).2.2) := j_tab (by decide +kernel) i
theorem d_Monitor_reset_0 : decode (jm_cod M_Monitor_reset) 0 = .ok (.aload_n 0, 1) := dt_Monitor_reset_c0 0
theorem d_Monitor_reset_1 : decode (jm_cod M_Monitor_reset) 1 = .ok (.getfield 14, 3) := dt_Monitor_reset_c0 1
theorem d_Monitor_reset_4 : decode (jm_cod M_Monitor_reset) 4 = .ok (.iconst 0, 1) := dt_Monitor_reset_c0 2
theorem d_Monitor_reset_5 : decode (jm_cod M_Monitor_reset) 5 = .ok (.putfield 42, 3) := dt_Monitor_reset_c0 3
theorem d_Monitor_reset_8 : decode (jm_cod M_Monitor_reset) 8 = .ok (.aload_n 0, 1) := dt_Monitor_reset_c0 4
theorem d_Monitor_reset_9 : decode (jm_cod M_Monitor_reset) 9 = .ok (.getfield 20, 3) := dt_Monitor_reset_c0 5
theorem d_Monitor_reset_12 : decode (jm_cod M_Monitor_reset) 12 = .ok (.iconst 0, 1) := dt_Monitor_reset_c0 6
theorem d_Monitor_reset_13 : decode (jm_cod M_Monitor_reset) 13 = .ok (.putfield 42, 3) := dt_Monitor_reset_c0 7
theorem d_Monitor_reset_16 : decode (jm_cod M_Monitor_reset) 16 = .ok (.iconst 0, 1) := dt_Monitor_reset_c0 8
theorem d_Monitor_reset_17 : decode (jm_cod M_Monitor_reset) 17 = .ok (.istore_n 1, 1) := dt_Monitor_reset_c0 9
theorem d_Monitor_reset_18 : decode (jm_cod M_Monitor_reset) 18 = .ok (.iload_n 1, 1) := dt_Monitor_reset_c0 10
theorem d_Monitor_reset_19 : decode (jm_cod M_Monitor_reset) 19 = .ok (.iconst 5, 1) := dt_Monitor_reset_c0 11
theorem d_Monitor_reset_20 : decode (jm_cod M_Monitor_reset) 20 = .ok (.if_icmp .ge 16, 3) := dt_Monitor_reset_c0 12
theorem d_Monitor_reset_23 : decode (jm_cod M_Monitor_reset) 23 = .ok (.aload_n 0, 1) := dt_Monitor_reset_c0 13
theorem d_Monitor_reset_24 : decode (jm_cod M_Monitor_reset) 24 = .ok (.getfield 23, 3) := dt_Monitor_reset_c0 14
theorem d_Monitor_reset_27 : decode (jm_cod M_Monitor_reset) 27 = .ok (.iload_n 1, 1) := dt_Monitor_reset_c0 15
theorem d_Monitor_reset_28 : decode (jm_cod M_Monitor_reset) 28 = .ok (.iconst 0, 1) := dt_Monitor_reset_c0 16
theorem d_Monitor_reset_29 : decode (jm_cod M_Monitor_reset) 29 = .ok (.bastore, 1) := dt_Monitor_reset_c0 17
theorem d_Monitor_reset_30 : decode (jm_cod M_Monitor_reset) 30 = .ok (.iinc 1 1, 3) := dt_Monitor_reset_c0 18
theorem d_Monitor_reset_33 : decode (jm_cod M_Monitor_reset) 33 = .ok (.goto (-15), 3) := dt_Monitor_reset_c0 19
theorem d_Monitor_reset_36 : decode (jm_cod M_Monitor_reset) 36 = .ok (.aload_n 0, 1) := dt_Monitor_reset_c0 20
theorem d_Monitor_reset_37 : decode (jm_cod M_Monitor_reset) 37 = .ok (.iconst 0, 1) := dt_Monitor_reset_c0 21
theorem d_Monitor_reset_38 : decode (jm_cod M_Monitor_reset) 38 = .ok (.putfield 45, 3) := dt_Monitor_reset_c0 22
theorem d_Monitor_reset_41 : decode (jm_cod M_Monitor_reset) 41 = .ok (.aload_n 0, 1) := dt_Monitor_reset_c0 23
def tab_Monitor_reset_c1 : List (Nat × Instr × Nat) := [(42, .iconst (-1), 1), (43, .putfield 35, 3), (46, .aload_n 0, 1), (47, .iconst (-1), 1), (48, .putfield 39, 3), (51, .aload_n 0, 1), (52, .iconst 0, 1), (53, .putfield 48, 3), (56, .return_, 1)]
theorem dt_Monitor_reset_c1 (i : Nat) : decode (jm_cod M_Monitor_reset) (tab_Monitor_reset_c1.getD i (42, .iconst (-1), 1)).1 = .ok ((tab_Monitor_reset_c1.getD i (42, .iconst (-1), 1)).2.1, (tab_Monitor_reset_c1.getD i (42, .iconst (-1), 1)).2.2) := j_tab (by decide +kernel) i
theorem d_Monitor_reset_42 : decode (jm_cod M_Monitor_reset) 42 = .ok (.iconst (-1), 1) := dt_Monitor_reset_c1 0
theorem d_Monitor_reset_43 : decode (jm_cod M_Monitor_reset) 43 = .ok (.putfield 35, 3) := dt_Monitor_reset_c1 1
theorem d_Monitor_reset_46 : decode (jm_cod M_Monitor_reset) 46 = .ok (.aload_n 0, 1) := dt_Monitor_reset_c1 2
theorem d_Monitor_reset_47 : decode (jm_cod M_Monitor_reset) 47 = .ok (.iconst (-1), 1) := dt_Monitor_reset_c1 3
theorem d_Monitor_reset_48 : decode (jm_cod M_Monitor_reset) 48 = .ok (.putfield 39, 3) := dt_Monitor_reset_c1 4
theorem d_Monitor_reset_51 : decode (jm_cod M_Monitor_reset) 51 = .ok (.aload_n 0, 1) := dt_Monitor_reset_c1 5
theorem d_Monitor_reset_52 : decode (jm_cod M_Monitor_reset) 52 = .ok (.iconst 0, 1) := dt_Monitor_reset_c1 6
theorem d_Monitor_reset_53 : decode (jm_cod M_Monitor_reset) 53 = .ok (.putfield 48, 3) := dt_Monitor_reset_c1 7
theorem d_Monitor_reset_56 : decode (jm_cod M_Monitor_reset) 56 = .ok (.return_, 1) := dt_Monitor_reset_c1 8
def tab_Monitor_look_c0 : List (Nat × Instr × Nat) := [(0, .iconst 0, 1), (1, .istore_n 2, 1), (2, .iload_n 2, 1), (3, .iconst 5, 1), (4, .if_icmp .ge 27, 3), (7, .aload_n 0, 1), (8, .getfield 45, 3), (11, .ifCond .ne 20, 3), (14, .aload_n 0, 1), (15, .aload_n 0, 1), (16, .aload_n 1, 1), (17, .iload_n 2, 1), (18, .invokevirtual 51, 3), (21, .iload_n 2, 1), (22, .invokevirtual 55, 3), (25, .iinc 2 1, 3), (28, .goto (-26), 3), (31, .aload_n 0, 1), (32, .getfield 45, 3), (35, .ifCond .ne 8, 3), (38, .aload_n 0, 1), (39, .aload_n 1, 1), (40, .invokevirtual 59, 3), (43, .aload_n 0, 1)]
theorem dt_Monitor_look_c0 (i : Nat) : decode (jm_cod M_Monitor_look) (tab_Monitor_look_c0.getD i (0, .iconst 0, 1)).1 = .ok ((tab_Monitor_look_c0.getD i (0, .iconst 0, 1)).2.1, (tab_Monitor_look_c0.getD i (0, .iconst 0, 1)).2.2) := j_tab (by decide +kernel) i
theorem d_Monitor_look_0 : decode (jm_cod M_Monitor_look) 0 = .ok (.iconst 0, 1) := dt_Monitor_look_c0 0
theorem d_Monitor_look_1 : decode (jm_cod M_Monitor_look) 1 = .ok (.istore_n 2, 1) := dt_Monitor_look_c0 1
theorem d_Monitor_look_2 : decode (jm_cod M_Monitor_look) 2 = .ok (.iload_n 2, 1) := dt_Monitor_look_c0 2
theorem d_Monitor_look_3 : decode (jm_cod M_Monitor_look) 3 = .ok (.iconst 5, 1) := dt_Monitor_look_c0 3
theorem d_Monitor_look_4 : decode (jm_cod M_Monitor_look) 4 = .ok (.if_icmp .ge 27, 3) := dt_Monitor_look_c0 4
theorem d_Monitor_look_7 : decode (jm_cod M_Monitor_look) 7 = .ok (.aload_n 0, 1) := dt_Monitor_look_c0 5
theorem d_Monitor_look_8 : decode (jm_cod M_Monitor_look) 8 = .ok (.getfield 45, 3) := dt_Monitor_look_c0 6
theorem d_Monitor_look_11 : decode (jm_cod M_Monitor_look) 11 = .ok (.ifCond .ne 20, 3) := dt_Monitor_look_c0 7
theorem d_Monitor_look_14 : decode (jm_cod M_Monitor_look) 14 = .ok (.aload_n 0, 1) := dt_Monitor_look_c0 8
theorem d_Monitor_look_15 : decode (jm_cod M_Monitor_look) 15 = .ok (.aload_n 0, 1) := dt_Monitor_look_c0 9
theorem d_Monitor_look_16 : decode (jm_cod M_Monitor_look) 16 = .ok (.aload_n 1, 1) := dt_Monitor_look_c0 10
theorem d_Monitor_look_17 : decode (jm_cod M_Monitor_look) 17 = .ok (.iload_n 2, 1) := dt_Monitor_look_c0 11
theorem d_Monitor_look_18 : decode (jm_cod M_Monitor_look) 18 = .ok (.invokevirtual 51, 3) := dt_Monitor_look_c0 12
theorem d_Monitor_look_21 : decode (jm_cod M_Monitor_look) 21 = .ok (.iload_n 2, 1) := dt_Monitor_look_c0 13
theorem d_Monitor_look_22 : decode (jm_cod M_Monitor_look) 22 = .ok (.invokevirtual 55, 3) := dt_Monitor_look_c0 14
theorem d_Monitor_look_25 : decode (jm_cod M_Monitor_look) 25 = .ok (.iinc 2 1, 3) := dt_Monitor_look_c0 15
theorem d_Monitor_look_28 : decode (jm_cod M_Monitor_look) 28 = .ok (.goto (-26), 3) := dt_Monitor_look_c0 16
theorem d_Monitor_look_31 : decode (jm_cod M_Monitor_look) 31 = .ok (.aload_n 0, 1) := dt_Monitor_look_c0 17
theorem d_Monitor_look_32 : decode (jm_cod M_Monitor_look) 32 = .ok (.getfield 45, 3) := dt_Monitor_look_c0 18
theorem d_Monitor_look_35 : decode (jm_cod M_Monitor_look) 35 = .ok (.ifCond .ne 8, 3) := dt_Monitor_look_c0 19
theorem d_Monitor_look_38 : decode (jm_cod M_Monitor_look) 38 = .ok (.aload_n 0, 1) := dt_Monitor_look_c0 20
theorem d_Monitor_look_39 : decode (jm_cod M_Monitor_look) 39 = .ok (.aload_n 1, 1) := dt_Monitor_look_c0 21
theorem d_Monitor_look_40 : decode (jm_cod M_Monitor_look) 40 = .ok (.invokevirtual 59, 3) := dt_Monitor_look_c0 22
theorem d_Monitor_look_43 : decode (jm_cod M_Monitor_look) 43 = .ok (.aload_n 0, 1) := dt_Monitor_look_c0 23
def tab_Monitor_look_c1 : List (Nat × Instr × Nat) := [(44, .getfield 45, 3), (47, .ifCond .ne 38, 3), (50, .aload_n 1, 1), (51, .iconst 3, 1), (52, .invokevirtual 63, 3), (55, .ifCond .eq 30, 3), (58, .aload_n 0, 1), (59, .aload_n 0, 1), (60, .getfield 20, 3), (63, .aload_n 1, 1), (64, .getfield 69, 3), (67, .iconst 3, 1), (68, .laload, 1), (69, .invokevirtual 72, 3), (72, .ifnonnull 8, 3), (75, .bipush 12, 2), (77, .goto 4, 3), (80, .iconst 0, 1), (81, .iconst 3, 1), (82, .invokevirtual 55, 3), (85, .aload_n 0, 1), (86, .getfield 45, 3), (89, .ifCond .ne 26, 3), (92, .aload_n 1, 1)]
theorem dt_Monitor_look_c1 (i : Nat) : decode (jm_cod M_Monitor_look) (tab_Monitor_look_c1.getD i (44, .getfield 45, 3)).1 = .ok ((tab_Monitor_look_c1.getD i (44, .getfield 45, 3)).2.1, (tab_Monitor_look_c1.getD i (44, .getfield 45, 3)).2.2) := j_tab (by decide +kernel) i
theorem d_Monitor_look_44 : decode (jm_cod M_Monitor_look) 44 = .ok (.getfield 45, 3) := dt_Monitor_look_c1 0
theorem d_Monitor_look_47 : decode (jm_cod M_Monitor_look) 47 = .ok (.ifCond .ne 38, 3) := dt_Monitor_look_c1 1
theorem d_Monitor_look_50 : decode (jm_cod M_Monitor_look) 50 = .ok (.aload_n 1, 1) := dt_Monitor_look_c1 2
theorem d_Monitor_look_51 : decode (jm_cod M_Monitor_look) 51 = .ok (.iconst 3, 1) := dt_Monitor_look_c1 3
theorem d_Monitor_look_52 : decode (jm_cod M_Monitor_look) 52 = .ok (.invokevirtual 63, 3) := dt_Monitor_look_c1 4
theorem d_Monitor_look_55 : decode (jm_cod M_Monitor_look) 55 = .ok (.ifCond .eq 30, 3) := dt_Monitor_look_c1 5
theorem d_Monitor_look_58 : decode (jm_cod M_Monitor_look) 58 = .ok (.aload_n 0, 1) := dt_Monitor_look_c1 6
theorem d_Monitor_look_59 : decode (jm_cod M_Monitor_look) 59 = .ok (.aload_n 0, 1) := dt_Monitor_look_c1 7
theorem d_Monitor_look_60 : decode (jm_cod M_Monitor_look) 60 = .ok (.getfield 20, 3) := dt_Monitor_look_c1 8
theorem d_Monitor_look_63 : decode (jm_cod M_Monitor_look) 63 = .ok (.aload_n 1, 1) := dt_Monitor_look_c1 9
theorem d_Monitor_look_64 : decode (jm_cod M_Monitor_look) 64 = .ok (.getfield 69, 3) := dt_Monitor_look_c1 10
theorem d_Monitor_look_67 : decode (jm_cod M_Monitor_look) 67 = .ok (.iconst 3, 1) := dt_Monitor_look_c1 11
theorem d_Monitor_look_68 : decode (jm_cod M_Monitor_look) 68 = .ok (.laload, 1) := dt_Monitor_look_c1 12
theorem d_Monitor_look_69 : decode (jm_cod M_Monitor_look) 69 = .ok (.invokevirtual 72, 3) := dt_Monitor_look_c1 13
theorem d_Monitor_look_72 : decode (jm_cod M_Monitor_look) 72 = .ok (.ifnonnull 8, 3) := dt_Monitor_look_c1 14
theorem d_Monitor_look_75 : decode (jm_cod M_Monitor_look) 75 = .ok (.bipush 12, 2) := dt_Monitor_look_c1 15
theorem d_Monitor_look_77 : decode (jm_cod M_Monitor_look) 77 = .ok (.goto 4, 3) := dt_Monitor_look_c1 16
theorem d_Monitor_look_80 : decode (jm_cod M_Monitor_look) 80 = .ok (.iconst 0, 1) := dt_Monitor_look_c1 17
theorem d_Monitor_look_81 : decode (jm_cod M_Monitor_look) 81 = .ok (.iconst 3, 1) := dt_Monitor_look_c1 18
theorem d_Monitor_look_82 : decode (jm_cod M_Monitor_look) 82 = .ok (.invokevirtual 55, 3) := dt_Monitor_look_c1 19
theorem d_Monitor_look_85 : decode (jm_cod M_Monitor_look) 85 = .ok (.aload_n 0, 1) := dt_Monitor_look_c1 20
theorem d_Monitor_look_86 : decode (jm_cod M_Monitor_look) 86 = .ok (.getfield 45, 3) := dt_Monitor_look_c1 21
theorem d_Monitor_look_89 : decode (jm_cod M_Monitor_look) 89 = .ok (.ifCond .ne 26, 3) := dt_Monitor_look_c1 22
theorem d_Monitor_look_92 : decode (jm_cod M_Monitor_look) 92 = .ok (.aload_n 1, 1) := dt_Monitor_look_c1 23
def tab_Monitor_look_c2 : List (Nat × Instr × Nat) := [(93, .iconst 0, 1), (94, .invokevirtual 63, 3), (97, .ifCond .eq 18, 3), (100, .aload_n 0, 1), (101, .aload_n 0, 1), (102, .aload_n 1, 1), (103, .getfield 69, 3), (106, .iconst 0, 1), (107, .laload, 1), (108, .invokevirtual 76, 3), (111, .iconst 0, 1), (112, .invokevirtual 55, 3), (115, .aload_n 0, 1), (116, .getfield 45, 3), (119, .ifCond .ne 26, 3), (122, .aload_n 1, 1), (123, .iconst 1, 1), (124, .invokevirtual 63, 3), (127, .ifCond .eq 18, 3), (130, .aload_n 0, 1), (131, .aload_n 0, 1), (132, .aload_n 1, 1), (133, .getfield 80, 3), (136, .iconst 1, 1)]
theorem dt_Monitor_look_c2 (i : Nat) : decode (jm_cod M_Monitor_look) (tab_Monitor_look_c2.getD i (93, .iconst 0, 1)).1 = .ok ((tab_Monitor_look_c2.getD i (93, .iconst 0, 1)).2.1, (tab_Monitor_look_c2.getD i (93, .iconst 0, 1)).2.2) := j_tab (by decide +kernel) i
theorem d_Monitor_look_93 : decode (jm_cod M_Monitor_look) 93 = .ok (.iconst 0, 1) := dt_Monitor_look_c2 0
theorem d_Monitor_look_94 : decode (jm_cod M_Monitor_look) 94 = .ok (.invokevirtual 63, 3) := dt_Monitor_look_c2 1
theorem d_Monitor_look_97 : decode (jm_cod M_Monitor_look) 97 = .ok (.ifCond .eq 18, 3) := dt_Monitor_look_c2 2
theorem d_Monitor_look_100 : decode (jm_cod M_Monitor_look) 100 = .ok (.aload_n 0, 1) := dt_Monitor_look_c2 3
theorem d_Monitor_look_101 : decode (jm_cod M_Monitor_look) 101 = .ok (.aload_n 0, 1) := dt_Monitor_look_c2 4
theorem d_Monitor_look_102 : decode (jm_cod M_Monitor_look) 102 = .ok (.aload_n 1, 1) := dt_Monitor_look_c2 5
theorem d_Monitor_look_103 : decode (jm_cod M_Monitor_look) 103 = .ok (.getfield 69, 3) := dt_Monitor_look_c2 6
theorem d_Monitor_look_106 : decode (jm_cod M_Monitor_look) 106 = .ok (.iconst 0, 1) := dt_Monitor_look_c2 7
theorem d_Monitor_look_107 : decode (jm_cod M_Monitor_look) 107 = .ok (.laload, 1) := dt_Monitor_look_c2 8
theorem d_Monitor_look_108 : decode (jm_cod M_Monitor_look) 108 = .ok (.invokevirtual 76, 3) := dt_Monitor_look_c2 9
theorem d_Monitor_look_111 : decode (jm_cod M_Monitor_look) 111 = .ok (.iconst 0, 1) := dt_Monitor_look_c2 10
theorem d_Monitor_look_112 : decode (jm_cod M_Monitor_look) 112 = .ok (.invokevirtual 55, 3) := dt_Monitor_look_c2 11
theorem d_Monitor_look_115 : decode (jm_cod M_Monitor_look) 115 = .ok (.aload_n 0, 1) := dt_Monitor_look_c2 12
theorem d_Monitor_look_116 : decode (jm_cod M_Monitor_look) 116 = .ok (.getfield 45, 3) := dt_Monitor_look_c2 13
theorem d_Monitor_look_119 : decode (jm_cod M_Monitor_look) 119 = .ok (.ifCond .ne 26, 3) := dt_Monitor_look_c2 14
theorem d_Monitor_look_122 : decode (jm_cod M_Monitor_look) 122 = .ok (.aload_n 1, 1) := dt_Monitor_look_c2 15
theorem d_Monitor_look_123 : decode (jm_cod M_Monitor_look) 123 = .ok (.iconst 1, 1) := dt_Monitor_look_c2 16
theorem d_Monitor_look_124 : decode (jm_cod M_Monitor_look) 124 = .ok (.invokevirtual 63, 3) := dt_Monitor_look_c2 17
theorem d_Monitor_look_127 : decode (jm_cod M_Monitor_look) 127 = .ok (.ifCond .eq 18, 3) := dt_Monitor_look_c2 18
theorem d_Monitor_look_130 : decode (jm_cod M_Monitor_look) 130 = .ok (.aload_n 0, 1) := dt_Monitor_look_c2 19
theorem d_Monitor_look_131 : decode (jm_cod M_Monitor_look) 131 = .ok (.aload_n 0, 1) := dt_Monitor_look_c2 20
theorem d_Monitor_look_132 : decode (jm_cod M_Monitor_look) 132 = .ok (.aload_n 1, 1) := dt_Monitor_look_c2 21
theorem d_Monitor_look_133 : decode (jm_cod M_Monitor_look) 133 = .ok (.getfield 80, 3) := dt_Monitor_look_c2 22
theorem d_Monitor_look_136 : decode (jm_cod M_Monitor_look) 136 = .ok (.iconst 1, 1) := dt_Monitor_look_c2 23
def tab_Monitor_look_c3 : List (Nat × Instr × Nat) := [(137, .iaload, 1), (138, .invokevirtual 83, 3), (141, .iconst 1, 1), (142, .invokevirtual 55, 3), (145, .aload_n 0, 1), (146, .aload_n 1, 1), (147, .invokevirtual 87, 3), (150, .aload_n 0, 1), (151, .dup, 1), (152, .getfield 48, 3), (155, .iconst 1, 1), (156, .iadd, 1), (157, .putfield 48, 3), (160, .return_, 1)]
theorem dt_Monitor_look_c3 (i : Nat) : decode (jm_cod M_Monitor_look) (tab_Monitor_look_c3.getD i (137, .iaload, 1)).1 = .ok ((tab_Monitor_look_c3.getD i (137, .iaload, 1)).2.1, (tab_Monitor_look_c3.getD i (137, .iaload, 1)).2.2) := j_tab (by decide +kernel) i
theorem d_Monitor_look_137 : decode (jm_cod M_Monitor_look) 137 = .ok (.iaload, 1) := dt_Monitor_look_c3 0
theorem d_Monitor_look_138 : decode (jm_cod M_Monitor_look) 138 = .ok (.invokevirtual 83, 3) := dt_Monitor_look_c3 1
theorem d_Monitor_look_141 : decode (jm_cod M_Monitor_look) 141 = .ok (.iconst 1, 1) := dt_Monitor_look_c3 2
theorem d_Monitor_look_142 : decode (jm_cod M_Monitor_look) 142 = .ok (.invokevirtual 55, 3) := dt_Monitor_look_c3 3
theorem d_Monitor_look_145 : decode (jm_cod M_Monitor_look) 145 = .ok (.aload_n 0, 1) := dt_Monitor_look_c3 4
theorem d_Monitor_look_146 : decode (jm_cod M_Monitor_look) 146 = .ok (.aload_n 1, 1) := dt_Monitor_look_c3 5
theorem d_Monitor_look_147 : decode (jm_cod M_Monitor_look) 147 = .ok (.invokevirtual 87, 3) := dt_Monitor_look_c3 6
theorem d_Monitor_look_150 : decode (jm_cod M_Monitor_look) 150 = .ok (.aload_n 0, 1) := dt_Monitor_look_c3 7
theorem d_Monitor_look_151 : decode (jm_cod M_Monitor_look) 151 = .ok (.dup, 1) := dt_Monitor_look_c3 8
theorem d_Monitor_look_152 : decode (jm_cod M_Monitor_look) 152 = .ok (.getfield 48, 3) := dt_Monitor_look_c3 9
theorem d_Monitor_look_155 : decode (jm_cod M_Monitor_look) 155 = .ok (.iconst 1, 1) := dt_Monitor_look_c3 10
theorem d_Monitor_look_156 : decode (jm_cod M_Monitor_look) 156 = .ok (.iadd, 1) := dt_Monitor_look_c3 11
theorem d_Monitor_look_157 : decode (jm_cod M_Monitor_look) 157 = .ok (.putfield 48, 3) := dt_Monitor_look_c3 12
theorem d_Monitor_look_160 : decode (jm_cod M_Monitor_look) 160 = .ok (.return_, 1) := dt_Monitor_look_c3 13
def tab_Monitor_brokenOn_c0 : List (Nat × Instr × Nat) := [(0, .aload_n 0, 1), (1, .getfield 23, 3), (4, .iload_n 2, 1), (5, .baload, 1), (6, .ifCond .eq 10, 3), (9, .aload_n 0, 1), (10, .aload_n 1, 1), (11, .iload_n 2, 1), (12, .invokevirtual 96, 3), (15, .ireturn, 1), (16, .aload_n 1, 1), (17, .getfield 90, 3), (20, .iload_n 2, 1), (21, .baload, 1), (22, .ifCond .ne 5, 3), (25, .iconst 0, 1), (26, .ireturn, 1), (27, .iload_n 2, 1), (28, .tableswitch 68 0 4 #[36, 68, 46, 36, 57], 36), (64, .aload_n 1, 1), (65, .getfield 69, 3), (68, .iload_n 2, 1), (69, .laload, 1), (70, .invokestatic 99, 3)]
theorem dt_Monitor_brokenOn_c0 (i : Nat) : decode (jm_cod M_Monitor_brokenOn) (tab_Monitor_brokenOn_c0.getD i (0, .aload_n 0, 1)).1 = .ok ((tab_Monitor_brokenOn_c0.getD i (0, .aload_n 0, 1)).2.1, (tab_Monitor_brokenOn_c0.getD i (0, .aload_n 0, 1)).2.2) := j_tab (by decide +kernel) i
theorem d_Monitor_brokenOn_0 : decode (jm_cod M_Monitor_brokenOn) 0 = .ok (.aload_n 0, 1) := dt_Monitor_brokenOn_c0 0
theorem d_Monitor_brokenOn_1 : decode (jm_cod M_Monitor_brokenOn) 1 = .ok (.getfield 23, 3) := dt_Monitor_brokenOn_c0 1
theorem d_Monitor_brokenOn_4 : decode (jm_cod M_Monitor_brokenOn) 4 = .ok (.iload_n 2, 1) := dt_Monitor_brokenOn_c0 2
theorem d_Monitor_brokenOn_5 : decode (jm_cod M_Monitor_brokenOn) 5 = .ok (.baload, 1) := dt_Monitor_brokenOn_c0 3
theorem d_Monitor_brokenOn_6 : decode (jm_cod M_Monitor_brokenOn) 6 = .ok (.ifCond .eq 10, 3) := dt_Monitor_brokenOn_c0 4
theorem d_Monitor_brokenOn_9 : decode (jm_cod M_Monitor_brokenOn) 9 = .ok (.aload_n 0, 1) := dt_Monitor_brokenOn_c0 5
theorem d_Monitor_brokenOn_10 : decode (jm_cod M_Monitor_brokenOn) 10 = .ok (.aload_n 1, 1) := dt_Monitor_brokenOn_c0 6
theorem d_Monitor_brokenOn_11 : decode (jm_cod M_Monitor_brokenOn) 11 = .ok (.iload_n 2, 1) := dt_Monitor_brokenOn_c0 7
theorem d_Monitor_brokenOn_12 : decode (jm_cod M_Monitor_brokenOn) 12 = .ok (.invokevirtual 96, 3) := dt_Monitor_brokenOn_c0 8
theorem d_Monitor_brokenOn_15 : decode (jm_cod M_Monitor_brokenOn) 15 = .ok (.ireturn, 1) := dt_Monitor_brokenOn_c0 9
theorem d_Monitor_brokenOn_16 : decode (jm_cod M_Monitor_brokenOn) 16 = .ok (.aload_n 1, 1) := dt_Monitor_brokenOn_c0 10
theorem d_Monitor_brokenOn_17 : decode (jm_cod M_Monitor_brokenOn) 17 = .ok (.getfield 90, 3) := dt_Monitor_brokenOn_c0 11
theorem d_Monitor_brokenOn_20 : decode (jm_cod M_Monitor_brokenOn) 20 = .ok (.iload_n 2, 1) := dt_Monitor_brokenOn_c0 12
theorem d_Monitor_brokenOn_21 : decode (jm_cod M_Monitor_brokenOn) 21 = .ok (.baload, 1) := dt_Monitor_brokenOn_c0 13
theorem d_Monitor_brokenOn_22 : decode (jm_cod M_Monitor_brokenOn) 22 = .ok (.ifCond .ne 5, 3) := dt_Monitor_brokenOn_c0 14
theorem d_Monitor_brokenOn_25 : decode (jm_cod M_Monitor_brokenOn) 25 = .ok (.iconst 0, 1) := dt_Monitor_brokenOn_c0 15
theorem d_Monitor_brokenOn_26 : decode (jm_cod M_Monitor_brokenOn) 26 = .ok (.ireturn, 1) := dt_Monitor_brokenOn_c0 16
theorem d_Monitor_brokenOn_27 : decode (jm_cod M_Monitor_brokenOn) 27 = .ok (.iload_n 2, 1) := dt_Monitor_brokenOn_c0 17
theorem d_Monitor_brokenOn_28 : decode (jm_cod M_Monitor_brokenOn) 28 = .ok (.tableswitch 68 0 4 #[36, 68, 46, 36, 57], 36) := dt_Monitor_brokenOn_c0 18
theorem d_Monitor_brokenOn_64 : decode (jm_cod M_Monitor_brokenOn) 64 = .ok (.aload_n 1, 1) := dt_Monitor_brokenOn_c0 19
theorem d_Monitor_brokenOn_65 : decode (jm_cod M_Monitor_brokenOn) 65 = .ok (.getfield 69, 3) := dt_Monitor_brokenOn_c0 20
theorem d_Monitor_brokenOn_68 : decode (jm_cod M_Monitor_brokenOn) 68 = .ok (.iload_n 2, 1) := dt_Monitor_brokenOn_c0 21
theorem d_Monitor_brokenOn_69 : decode (jm_cod M_Monitor_brokenOn) 69 = .ok (.laload, 1) := dt_Monitor_brokenOn_c0 22
theorem d_Monitor_brokenOn_70 : decode (jm_cod M_Monitor_brokenOn) 70 = .ok (.invokestatic 99, 3) := dt_Monitor_brokenOn_c0 23
def tab_Monitor_brokenOn_c1 : List (Nat × Instr × Nat) := [(73, .ireturn, 1), (74, .aload_n 0, 1), (75, .aload_n 1, 1), (76, .getfield 80, 3), (79, .iconst 2, 1), (80, .iaload, 1), (81, .invokevirtual 104, 3), (84, .ireturn, 1), (85, .aload_n 0, 1), (86, .aload_n 1, 1), (87, .getfield 80, 3), (90, .iconst 4, 1), (91, .iaload, 1), (92, .invokevirtual 107, 3), (95, .ireturn, 1), (96, .iconst 0, 1), (97, .ireturn, 1)]
theorem dt_Monitor_brokenOn_c1 (i : Nat) : decode (jm_cod M_Monitor_brokenOn) (tab_Monitor_brokenOn_c1.getD i (73, .ireturn, 1)).1 = .ok ((tab_Monitor_brokenOn_c1.getD i (73, .ireturn, 1)).2.1, (tab_Monitor_brokenOn_c1.getD i (73, .ireturn, 1)).2.2) := j_tab (by decide +kernel) i
theorem d_Monitor_brokenOn_73 : decode (jm_cod M_Monitor_brokenOn) 73 = .ok (.ireturn, 1) := dt_Monitor_brokenOn_c1 0
theorem d_Monitor_brokenOn_74 : decode (jm_cod M_Monitor_brokenOn) 74 = .ok (.aload_n 0, 1) := dt_Monitor_brokenOn_c1 1
theorem d_Monitor_brokenOn_75 : decode (jm_cod M_Monitor_brokenOn) 75 = .ok (.aload_n 1, 1) := dt_Monitor_brokenOn_c1 2
theorem d_Monitor_brokenOn_76 : decode (jm_cod M_Monitor_brokenOn) 76 = .ok (.getfield 80, 3) := dt_Monitor_brokenOn_c1 3
theorem d_Monitor_brokenOn_79 : decode (jm_cod M_Monitor_brokenOn) 79 = .ok (.iconst 2, 1) := dt_Monitor_brokenOn_c1 4
theorem d_Monitor_brokenOn_80 : decode (jm_cod M_Monitor_brokenOn) 80 = .ok (.iaload, 1) := dt_Monitor_brokenOn_c1 5
theorem d_Monitor_brokenOn_81 : decode (jm_cod M_Monitor_brokenOn) 81 = .ok (.invokevirtual 104, 3) := dt_Monitor_brokenOn_c1 6
theorem d_Monitor_brokenOn_84 : decode (jm_cod M_Monitor_brokenOn) 84 = .ok (.ireturn, 1) := dt_Monitor_brokenOn_c1 7
theorem d_Monitor_brokenOn_85 : decode (jm_cod M_Monitor_brokenOn) 85 = .ok (.aload_n 0, 1) := dt_Monitor_brokenOn_c1 8
theorem d_Monitor_brokenOn_86 : decode (jm_cod M_Monitor_brokenOn) 86 = .ok (.aload_n 1, 1) := dt_Monitor_brokenOn_c1 9
theorem d_Monitor_brokenOn_87 : decode (jm_cod M_Monitor_brokenOn) 87 = .ok (.getfield 80, 3) := dt_Monitor_brokenOn_c1 10
theorem d_Monitor_brokenOn_90 : decode (jm_cod M_Monitor_brokenOn) 90 = .ok (.iconst 4, 1) := dt_Monitor_brokenOn_c1 11
theorem d_Monitor_brokenOn_91 : decode (jm_cod M_Monitor_brokenOn) 91 = .ok (.iaload, 1) := dt_Monitor_brokenOn_c1 12
theorem d_Monitor_brokenOn_92 : decode (jm_cod M_Monitor_brokenOn) 92 = .ok (.invokevirtual 107, 3) := dt_Monitor_brokenOn_c1 13
theorem d_Monitor_brokenOn_95 : decode (jm_cod M_Monitor_brokenOn) 95 = .ok (.ireturn, 1) := dt_Monitor_brokenOn_c1 14
theorem d_Monitor_brokenOn_96 : decode (jm_cod M_Monitor_brokenOn) 96 = .ok (.iconst 0, 1) := dt_Monitor_brokenOn_c1 15
theorem d_Monitor_brokenOn_97 : decode (jm_cod M_Monitor_brokenOn) 97 = .ok (.ireturn, 1) := dt_Monitor_brokenOn_c1 16
def tab_Monitor_brokenHeld_c0 : List (Nat × Instr × Nat) := [(0, .aload_n 1, 1), (1, .getfield 90, 3), (4, .iload_n 2, 1), (5, .baload, 1), (6, .ifCond .ne 5, 3), (9, .iconst 1, 1), (10, .ireturn, 1), (11, .aload_n 1, 1), (12, .getfield 69, 3), (15, .iload_n 2, 1), (16, .laload, 1), (17, .aload_n 0, 1), (18, .getfield 27, 3), (21, .iload_n 2, 1), (22, .laload, 1), (23, .lcmp, 1), (24, .ifCond .ne 22, 3), (27, .aload_n 1, 1), (28, .getfield 80, 3), (31, .iload_n 2, 1), (32, .iaload, 1), (33, .aload_n 0, 1), (34, .getfield 31, 3), (37, .iload_n 2, 1)]
theorem dt_Monitor_brokenHeld_c0 (i : Nat) : decode (jm_cod M_Monitor_brokenHeld) (tab_Monitor_brokenHeld_c0.getD i (0, .aload_n 1, 1)).1 = .ok ((tab_Monitor_brokenHeld_c0.getD i (0, .aload_n 1, 1)).2.1, (tab_Monitor_brokenHeld_c0.getD i (0, .aload_n 1, 1)).2.2) := j_tab (by decide +kernel) i
theorem d_Monitor_brokenHeld_0 : decode (jm_cod M_Monitor_brokenHeld) 0 = .ok (.aload_n 1, 1) := dt_Monitor_brokenHeld_c0 0
theorem d_Monitor_brokenHeld_1 : decode (jm_cod M_Monitor_brokenHeld) 1 = .ok (.getfield 90, 3) := dt_Monitor_brokenHeld_c0 1
theorem d_Monitor_brokenHeld_4 : decode (jm_cod M_Monitor_brokenHeld) 4 = .ok (.iload_n 2, 1) := dt_Monitor_brokenHeld_c0 2
theorem d_Monitor_brokenHeld_5 : decode (jm_cod M_Monitor_brokenHeld) 5 = .ok (.baload, 1) := dt_Monitor_brokenHeld_c0 3
theorem d_Monitor_brokenHeld_6 : decode (jm_cod M_Monitor_brokenHeld) 6 = .ok (.ifCond .ne 5, 3) := dt_Monitor_brokenHeld_c0 4
theorem d_Monitor_brokenHeld_9 : decode (jm_cod M_Monitor_brokenHeld) 9 = .ok (.iconst 1, 1) := dt_Monitor_brokenHeld_c0 5
theorem d_Monitor_brokenHeld_10 : decode (jm_cod M_Monitor_brokenHeld) 10 = .ok (.ireturn, 1) := dt_Monitor_brokenHeld_c0 6
theorem d_Monitor_brokenHeld_11 : decode (jm_cod M_Monitor_brokenHeld) 11 = .ok (.aload_n 1, 1) := dt_Monitor_brokenHeld_c0 7
theorem d_Monitor_brokenHeld_12 : decode (jm_cod M_Monitor_brokenHeld) 12 = .ok (.getfield 69, 3) := dt_Monitor_brokenHeld_c0 8
theorem d_Monitor_brokenHeld_15 : decode (jm_cod M_Monitor_brokenHeld) 15 = .ok (.iload_n 2, 1) := dt_Monitor_brokenHeld_c0 9
theorem d_Monitor_brokenHeld_16 : decode (jm_cod M_Monitor_brokenHeld) 16 = .ok (.laload, 1) := dt_Monitor_brokenHeld_c0 10
theorem d_Monitor_brokenHeld_17 : decode (jm_cod M_Monitor_brokenHeld) 17 = .ok (.aload_n 0, 1) := dt_Monitor_brokenHeld_c0 11
theorem d_Monitor_brokenHeld_18 : decode (jm_cod M_Monitor_brokenHeld) 18 = .ok (.getfield 27, 3) := dt_Monitor_brokenHeld_c0 12
theorem d_Monitor_brokenHeld_21 : decode (jm_cod M_Monitor_brokenHeld) 21 = .ok (.iload_n 2, 1) := dt_Monitor_brokenHeld_c0 13
theorem d_Monitor_brokenHeld_22 : decode (jm_cod M_Monitor_brokenHeld) 22 = .ok (.laload, 1) := dt_Monitor_brokenHeld_c0 14
theorem d_Monitor_brokenHeld_23 : decode (jm_cod M_Monitor_brokenHeld) 23 = .ok (.lcmp, 1) := dt_Monitor_brokenHeld_c0 15
theorem d_Monitor_brokenHeld_24 : decode (jm_cod M_Monitor_brokenHeld) 24 = .ok (.ifCond .ne 22, 3) := dt_Monitor_brokenHeld_c0 16
theorem d_Monitor_brokenHeld_27 : decode (jm_cod M_Monitor_brokenHeld) 27 = .ok (.aload_n 1, 1) := dt_Monitor_brokenHeld_c0 17
theorem d_Monitor_brokenHeld_28 : decode (jm_cod M_Monitor_brokenHeld) 28 = .ok (.getfield 80, 3) := dt_Monitor_brokenHeld_c0 18
theorem d_Monitor_brokenHeld_31 : decode (jm_cod M_Monitor_brokenHeld) 31 = .ok (.iload_n 2, 1) := dt_Monitor_brokenHeld_c0 19
theorem d_Monitor_brokenHeld_32 : decode (jm_cod M_Monitor_brokenHeld) 32 = .ok (.iaload, 1) := dt_Monitor_brokenHeld_c0 20
theorem d_Monitor_brokenHeld_33 : decode (jm_cod M_Monitor_brokenHeld) 33 = .ok (.aload_n 0, 1) := dt_Monitor_brokenHeld_c0 21
theorem d_Monitor_brokenHeld_34 : decode (jm_cod M_Monitor_brokenHeld) 34 = .ok (.getfield 31, 3) := dt_Monitor_brokenHeld_c0 22
theorem d_Monitor_brokenHeld_37 : decode (jm_cod M_Monitor_brokenHeld) 37 = .ok (.iload_n 2, 1) := dt_Monitor_brokenHeld_c0 23
def tab_Monitor_brokenHeld_c1 : List (Nat × Instr × Nat) := [(38, .iaload, 1), (39, .if_icmp .ne 7, 3), (42, .iconst 1, 1), (43, .goto 4, 3), (46, .iconst 0, 1), (47, .istore_n 3, 1), (48, .iload_n 3, 1), (49, .ifCond .eq 7, 3), (52, .iconst 0, 1), (53, .goto 4, 3), (56, .iconst 2, 1), (57, .ireturn, 1)]
theorem dt_Monitor_brokenHeld_c1 (i : Nat) : decode (jm_cod M_Monitor_brokenHeld) (tab_Monitor_brokenHeld_c1.getD i (38, .iaload, 1)).1 = .ok ((tab_Monitor_brokenHeld_c1.getD i (38, .iaload, 1)).2.1, (tab_Monitor_brokenHeld_c1.getD i (38, .iaload, 1)).2.2) := j_tab (by decide +kernel) i
theorem d_Monitor_brokenHeld_38 : decode (jm_cod M_Monitor_brokenHeld) 38 = .ok (.iaload, 1) := dt_Monitor_brokenHeld_c1 0
theorem d_Monitor_brokenHeld_39 : decode (jm_cod M_Monitor_brokenHeld) 39 = .ok (.if_icmp .ne 7, 3) := dt_Monitor_brokenHeld_c1 1
theorem d_Monitor_brokenHeld_42 : decode (jm_cod M_Monitor_brokenHeld) 42 = .ok (.iconst 1, 1) := dt_Monitor_brokenHeld_c1 2
theorem d_Monitor_brokenHeld_43 : decode (jm_cod M_Monitor_brokenHeld) 43 = .ok (.goto 4, 3) := dt_Monitor_brokenHeld_c1 3
theorem d_Monitor_brokenHeld_46 : decode (jm_cod M_Monitor_brokenHeld) 46 = .ok (.iconst 0, 1) := dt_Monitor_brokenHeld_c1 4
theorem d_Monitor_brokenHeld_47 : decode (jm_cod M_Monitor_brokenHeld) 47 = .ok (.istore_n 3, 1) := dt_Monitor_brokenHeld_c1 5
theorem d_Monitor_brokenHeld_48 : decode (jm_cod M_Monitor_brokenHeld) 48 = .ok (.iload_n 3, 1) := dt_Monitor_brokenHeld_c1 6
theorem d_Monitor_brokenHeld_49 : decode (jm_cod M_Monitor_brokenHeld) 49 = .ok (.ifCond .eq 7, 3) := dt_Monitor_brokenHeld_c1 7
theorem d_Monitor_brokenHeld_52 : decode (jm_cod M_Monitor_brokenHeld) 52 = .ok (.iconst 0, 1) := dt_Monitor_brokenHeld_c1 8
theorem d_Monitor_brokenHeld_53 : decode (jm_cod M_Monitor_brokenHeld) 53 = .ok (.goto 4, 3) := dt_Monitor_brokenHeld_c1 9
theorem d_Monitor_brokenHeld_56 : decode (jm_cod M_Monitor_brokenHeld) 56 = .ok (.iconst 2, 1) := dt_Monitor_brokenHeld_c1 10
theorem d_Monitor_brokenHeld_57 : decode (jm_cod M_Monitor_brokenHeld) 57 = .ok (.ireturn, 1) := dt_Monitor_brokenHeld_c1 11
def tab_Monitor_brokenAnswer_c0 : List (Nat × Instr × Nat) := [(0, .aload_n 0, 1), (1, .getfield 14, 3), (4, .aload_n 0, 1), (5, .getfield 14, 3), (8, .iload_n 1, 1), (9, .invokestatic 110, 3), (12, .invokevirtual 113, 3), (15, .invokevirtual 116, 3), (18, .astore_n 2, 1), (19, .aload_n 2, 1), (20, .ifnonnull 6, 3), (23, .bipush 9, 2), (25, .ireturn, 1), (26, .iload_n 1, 1), (27, .aload_n 2, 1), (28, .invokestatic 120, 3), (31, .ireturn, 1)]
theorem dt_Monitor_brokenAnswer_c0 (i : Nat) : decode (jm_cod M_Monitor_brokenAnswer) (tab_Monitor_brokenAnswer_c0.getD i (0, .aload_n 0, 1)).1 = .ok ((tab_Monitor_brokenAnswer_c0.getD i (0, .aload_n 0, 1)).2.1, (tab_Monitor_brokenAnswer_c0.getD i (0, .aload_n 0, 1)).2.2) := j_tab (by decide +kernel) i
theorem d_Monitor_brokenAnswer_0 : decode (jm_cod M_Monitor_brokenAnswer) 0 = .ok (.aload_n 0, 1) := dt_Monitor_brokenAnswer_c0 0
theorem d_Monitor_brokenAnswer_1 : decode (jm_cod M_Monitor_brokenAnswer) 1 = .ok (.getfield 14, 3) := dt_Monitor_brokenAnswer_c0 1
theorem d_Monitor_brokenAnswer_4 : decode (jm_cod M_Monitor_brokenAnswer) 4 = .ok (.aload_n 0, 1) := dt_Monitor_brokenAnswer_c0 2
theorem d_Monitor_brokenAnswer_5 : decode (jm_cod M_Monitor_brokenAnswer) 5 = .ok (.getfield 14, 3) := dt_Monitor_brokenAnswer_c0 3
theorem d_Monitor_brokenAnswer_8 : decode (jm_cod M_Monitor_brokenAnswer) 8 = .ok (.iload_n 1, 1) := dt_Monitor_brokenAnswer_c0 4
theorem d_Monitor_brokenAnswer_9 : decode (jm_cod M_Monitor_brokenAnswer) 9 = .ok (.invokestatic 110, 3) := dt_Monitor_brokenAnswer_c0 5
theorem d_Monitor_brokenAnswer_12 : decode (jm_cod M_Monitor_brokenAnswer) 12 = .ok (.invokevirtual 113, 3) := dt_Monitor_brokenAnswer_c0 6
theorem d_Monitor_brokenAnswer_15 : decode (jm_cod M_Monitor_brokenAnswer) 15 = .ok (.invokevirtual 116, 3) := dt_Monitor_brokenAnswer_c0 7
theorem d_Monitor_brokenAnswer_18 : decode (jm_cod M_Monitor_brokenAnswer) 18 = .ok (.astore_n 2, 1) := dt_Monitor_brokenAnswer_c0 8
theorem d_Monitor_brokenAnswer_19 : decode (jm_cod M_Monitor_brokenAnswer) 19 = .ok (.aload_n 2, 1) := dt_Monitor_brokenAnswer_c0 9
theorem d_Monitor_brokenAnswer_20 : decode (jm_cod M_Monitor_brokenAnswer) 20 = .ok (.ifnonnull 6, 3) := dt_Monitor_brokenAnswer_c0 10
theorem d_Monitor_brokenAnswer_23 : decode (jm_cod M_Monitor_brokenAnswer) 23 = .ok (.bipush 9, 2) := dt_Monitor_brokenAnswer_c0 11
theorem d_Monitor_brokenAnswer_25 : decode (jm_cod M_Monitor_brokenAnswer) 25 = .ok (.ireturn, 1) := dt_Monitor_brokenAnswer_c0 12
theorem d_Monitor_brokenAnswer_26 : decode (jm_cod M_Monitor_brokenAnswer) 26 = .ok (.iload_n 1, 1) := dt_Monitor_brokenAnswer_c0 13
theorem d_Monitor_brokenAnswer_27 : decode (jm_cod M_Monitor_brokenAnswer) 27 = .ok (.aload_n 2, 1) := dt_Monitor_brokenAnswer_c0 14
theorem d_Monitor_brokenAnswer_28 : decode (jm_cod M_Monitor_brokenAnswer) 28 = .ok (.invokestatic 120, 3) := dt_Monitor_brokenAnswer_c0 15
theorem d_Monitor_brokenAnswer_31 : decode (jm_cod M_Monitor_brokenAnswer) 31 = .ok (.ireturn, 1) := dt_Monitor_brokenAnswer_c0 16
def tab_Monitor_brokenResponse_c0 : List (Nat × Instr × Nat) := [(0, .iload_n 0, 1), (1, .invokestatic 140, 3), (4, .iconst 1, 1), (5, .if_icmp .ne 17, 3), (8, .aload_n 1, 1), (9, .getfield 130, 3), (12, .invokestatic 143, 3), (15, .ifCond .ne 7, 3), (18, .iconst 1, 1), (19, .goto 4, 3), (22, .iconst 0, 1), (23, .istore_n 2, 1), (24, .iload_n 2, 1), (25, .ifCond .eq 8, 3), (28, .bipush 11, 2), (30, .goto 4, 3), (33, .iconst 0, 1), (34, .ireturn, 1)]
theorem dt_Monitor_brokenResponse_c0 (i : Nat) : decode (jm_cod M_Monitor_brokenResponse) (tab_Monitor_brokenResponse_c0.getD i (0, .iload_n 0, 1)).1 = .ok ((tab_Monitor_brokenResponse_c0.getD i (0, .iload_n 0, 1)).2.1, (tab_Monitor_brokenResponse_c0.getD i (0, .iload_n 0, 1)).2.2) := j_tab (by decide +kernel) i
theorem d_Monitor_brokenResponse_0 : decode (jm_cod M_Monitor_brokenResponse) 0 = .ok (.iload_n 0, 1) := dt_Monitor_brokenResponse_c0 0
theorem d_Monitor_brokenResponse_1 : decode (jm_cod M_Monitor_brokenResponse) 1 = .ok (.invokestatic 140, 3) := dt_Monitor_brokenResponse_c0 1
theorem d_Monitor_brokenResponse_4 : decode (jm_cod M_Monitor_brokenResponse) 4 = .ok (.iconst 1, 1) := dt_Monitor_brokenResponse_c0 2
theorem d_Monitor_brokenResponse_5 : decode (jm_cod M_Monitor_brokenResponse) 5 = .ok (.if_icmp .ne 17, 3) := dt_Monitor_brokenResponse_c0 3
theorem d_Monitor_brokenResponse_8 : decode (jm_cod M_Monitor_brokenResponse) 8 = .ok (.aload_n 1, 1) := dt_Monitor_brokenResponse_c0 4
theorem d_Monitor_brokenResponse_9 : decode (jm_cod M_Monitor_brokenResponse) 9 = .ok (.getfield 130, 3) := dt_Monitor_brokenResponse_c0 5
theorem d_Monitor_brokenResponse_12 : decode (jm_cod M_Monitor_brokenResponse) 12 = .ok (.invokestatic 143, 3) := dt_Monitor_brokenResponse_c0 6
theorem d_Monitor_brokenResponse_15 : decode (jm_cod M_Monitor_brokenResponse) 15 = .ok (.ifCond .ne 7, 3) := dt_Monitor_brokenResponse_c0 7
theorem d_Monitor_brokenResponse_18 : decode (jm_cod M_Monitor_brokenResponse) 18 = .ok (.iconst 1, 1) := dt_Monitor_brokenResponse_c0 8
theorem d_Monitor_brokenResponse_19 : decode (jm_cod M_Monitor_brokenResponse) 19 = .ok (.goto 4, 3) := dt_Monitor_brokenResponse_c0 9
theorem d_Monitor_brokenResponse_22 : decode (jm_cod M_Monitor_brokenResponse) 22 = .ok (.iconst 0, 1) := dt_Monitor_brokenResponse_c0 10
theorem d_Monitor_brokenResponse_23 : decode (jm_cod M_Monitor_brokenResponse) 23 = .ok (.istore_n 2, 1) := dt_Monitor_brokenResponse_c0 11
theorem d_Monitor_brokenResponse_24 : decode (jm_cod M_Monitor_brokenResponse) 24 = .ok (.iload_n 2, 1) := dt_Monitor_brokenResponse_c0 12
theorem d_Monitor_brokenResponse_25 : decode (jm_cod M_Monitor_brokenResponse) 25 = .ok (.ifCond .eq 8, 3) := dt_Monitor_brokenResponse_c0 13
theorem d_Monitor_brokenResponse_28 : decode (jm_cod M_Monitor_brokenResponse) 28 = .ok (.bipush 11, 2) := dt_Monitor_brokenResponse_c0 14
theorem d_Monitor_brokenResponse_30 : decode (jm_cod M_Monitor_brokenResponse) 30 = .ok (.goto 4, 3) := dt_Monitor_brokenResponse_c0 15
theorem d_Monitor_brokenResponse_33 : decode (jm_cod M_Monitor_brokenResponse) 33 = .ok (.iconst 0, 1) := dt_Monitor_brokenResponse_c0 16
theorem d_Monitor_brokenResponse_34 : decode (jm_cod M_Monitor_brokenResponse) 34 = .ok (.ireturn, 1) := dt_Monitor_brokenResponse_c0 17
def tab_Monitor_brokenReadBeat_c0 : List (Nat × Instr × Nat) := [(0, .aload_n 0, 1), (1, .getfield 20, 3), (4, .aload_n 0, 1), (5, .getfield 20, 3), (8, .iload_n 1, 1), (9, .invokestatic 110, 3), (12, .invokevirtual 124, 3), (15, .invokevirtual 116, 3), (18, .astore_n 2, 1), (19, .aload_n 2, 1), (20, .ifnonnull 6, 3), (23, .bipush 10, 2), (25, .ireturn, 1), (26, .aload_n 2, 1), (27, .getfield 127, 3), (30, .aload_n 2, 1), (31, .getfield 130, 3), (34, .invokestatic 134, 3), (37, .iconst 1, 1), (38, .isub, 1), (39, .if_icmp .ne 7, 3), (42, .iconst 1, 1), (43, .goto 4, 3), (46, .iconst 0, 1)]
theorem dt_Monitor_brokenReadBeat_c0 (i : Nat) : decode (jm_cod M_Monitor_brokenReadBeat) (tab_Monitor_brokenReadBeat_c0.getD i (0, .aload_n 0, 1)).1 = .ok ((tab_Monitor_brokenReadBeat_c0.getD i (0, .aload_n 0, 1)).2.1, (tab_Monitor_brokenReadBeat_c0.getD i (0, .aload_n 0, 1)).2.2) := j_tab (by decide +kernel) i
theorem d_Monitor_brokenReadBeat_0 : decode (jm_cod M_Monitor_brokenReadBeat) 0 = .ok (.aload_n 0, 1) := dt_Monitor_brokenReadBeat_c0 0
theorem d_Monitor_brokenReadBeat_1 : decode (jm_cod M_Monitor_brokenReadBeat) 1 = .ok (.getfield 20, 3) := dt_Monitor_brokenReadBeat_c0 1
theorem d_Monitor_brokenReadBeat_4 : decode (jm_cod M_Monitor_brokenReadBeat) 4 = .ok (.aload_n 0, 1) := dt_Monitor_brokenReadBeat_c0 2
theorem d_Monitor_brokenReadBeat_5 : decode (jm_cod M_Monitor_brokenReadBeat) 5 = .ok (.getfield 20, 3) := dt_Monitor_brokenReadBeat_c0 3
theorem d_Monitor_brokenReadBeat_8 : decode (jm_cod M_Monitor_brokenReadBeat) 8 = .ok (.iload_n 1, 1) := dt_Monitor_brokenReadBeat_c0 4
theorem d_Monitor_brokenReadBeat_9 : decode (jm_cod M_Monitor_brokenReadBeat) 9 = .ok (.invokestatic 110, 3) := dt_Monitor_brokenReadBeat_c0 5
theorem d_Monitor_brokenReadBeat_12 : decode (jm_cod M_Monitor_brokenReadBeat) 12 = .ok (.invokevirtual 124, 3) := dt_Monitor_brokenReadBeat_c0 6
theorem d_Monitor_brokenReadBeat_15 : decode (jm_cod M_Monitor_brokenReadBeat) 15 = .ok (.invokevirtual 116, 3) := dt_Monitor_brokenReadBeat_c0 7
theorem d_Monitor_brokenReadBeat_18 : decode (jm_cod M_Monitor_brokenReadBeat) 18 = .ok (.astore_n 2, 1) := dt_Monitor_brokenReadBeat_c0 8
theorem d_Monitor_brokenReadBeat_19 : decode (jm_cod M_Monitor_brokenReadBeat) 19 = .ok (.aload_n 2, 1) := dt_Monitor_brokenReadBeat_c0 9
theorem d_Monitor_brokenReadBeat_20 : decode (jm_cod M_Monitor_brokenReadBeat) 20 = .ok (.ifnonnull 6, 3) := dt_Monitor_brokenReadBeat_c0 10
theorem d_Monitor_brokenReadBeat_23 : decode (jm_cod M_Monitor_brokenReadBeat) 23 = .ok (.bipush 10, 2) := dt_Monitor_brokenReadBeat_c0 11
theorem d_Monitor_brokenReadBeat_25 : decode (jm_cod M_Monitor_brokenReadBeat) 25 = .ok (.ireturn, 1) := dt_Monitor_brokenReadBeat_c0 12
theorem d_Monitor_brokenReadBeat_26 : decode (jm_cod M_Monitor_brokenReadBeat) 26 = .ok (.aload_n 2, 1) := dt_Monitor_brokenReadBeat_c0 13
theorem d_Monitor_brokenReadBeat_27 : decode (jm_cod M_Monitor_brokenReadBeat) 27 = .ok (.getfield 127, 3) := dt_Monitor_brokenReadBeat_c0 14
theorem d_Monitor_brokenReadBeat_30 : decode (jm_cod M_Monitor_brokenReadBeat) 30 = .ok (.aload_n 2, 1) := dt_Monitor_brokenReadBeat_c0 15
theorem d_Monitor_brokenReadBeat_31 : decode (jm_cod M_Monitor_brokenReadBeat) 31 = .ok (.getfield 130, 3) := dt_Monitor_brokenReadBeat_c0 16
theorem d_Monitor_brokenReadBeat_34 : decode (jm_cod M_Monitor_brokenReadBeat) 34 = .ok (.invokestatic 134, 3) := dt_Monitor_brokenReadBeat_c0 17
theorem d_Monitor_brokenReadBeat_37 : decode (jm_cod M_Monitor_brokenReadBeat) 37 = .ok (.iconst 1, 1) := dt_Monitor_brokenReadBeat_c0 18
theorem d_Monitor_brokenReadBeat_38 : decode (jm_cod M_Monitor_brokenReadBeat) 38 = .ok (.isub, 1) := dt_Monitor_brokenReadBeat_c0 19
theorem d_Monitor_brokenReadBeat_39 : decode (jm_cod M_Monitor_brokenReadBeat) 39 = .ok (.if_icmp .ne 7, 3) := dt_Monitor_brokenReadBeat_c0 20
theorem d_Monitor_brokenReadBeat_42 : decode (jm_cod M_Monitor_brokenReadBeat) 42 = .ok (.iconst 1, 1) := dt_Monitor_brokenReadBeat_c0 21
theorem d_Monitor_brokenReadBeat_43 : decode (jm_cod M_Monitor_brokenReadBeat) 43 = .ok (.goto 4, 3) := dt_Monitor_brokenReadBeat_c0 22
theorem d_Monitor_brokenReadBeat_46 : decode (jm_cod M_Monitor_brokenReadBeat) 46 = .ok (.iconst 0, 1) := dt_Monitor_brokenReadBeat_c0 23
def tab_Monitor_brokenReadBeat_c1 : List (Nat × Instr × Nat) := [(47, .istore_n 3, 1), (48, .iload_n 3, 1), (49, .iload_n 1, 1), (50, .invokestatic 137, 3), (53, .if_icmp .eq 6, 3), (56, .bipush 7, 2), (58, .ireturn, 1), (59, .iload_n 1, 1), (60, .aload_n 2, 1), (61, .invokestatic 120, 3), (64, .ireturn, 1)]
theorem dt_Monitor_brokenReadBeat_c1 (i : Nat) : decode (jm_cod M_Monitor_brokenReadBeat) (tab_Monitor_brokenReadBeat_c1.getD i (47, .istore_n 3, 1)).1 = .ok ((tab_Monitor_brokenReadBeat_c1.getD i (47, .istore_n 3, 1)).2.1, (tab_Monitor_brokenReadBeat_c1.getD i (47, .istore_n 3, 1)).2.2) := j_tab (by decide +kernel) i
theorem d_Monitor_brokenReadBeat_47 : decode (jm_cod M_Monitor_brokenReadBeat) 47 = .ok (.istore_n 3, 1) := dt_Monitor_brokenReadBeat_c1 0
theorem d_Monitor_brokenReadBeat_48 : decode (jm_cod M_Monitor_brokenReadBeat) 48 = .ok (.iload_n 3, 1) := dt_Monitor_brokenReadBeat_c1 1
theorem d_Monitor_brokenReadBeat_49 : decode (jm_cod M_Monitor_brokenReadBeat) 49 = .ok (.iload_n 1, 1) := dt_Monitor_brokenReadBeat_c1 2
theorem d_Monitor_brokenReadBeat_50 : decode (jm_cod M_Monitor_brokenReadBeat) 50 = .ok (.invokestatic 137, 3) := dt_Monitor_brokenReadBeat_c1 3
theorem d_Monitor_brokenReadBeat_53 : decode (jm_cod M_Monitor_brokenReadBeat) 53 = .ok (.if_icmp .eq 6, 3) := dt_Monitor_brokenReadBeat_c1 4
theorem d_Monitor_brokenReadBeat_56 : decode (jm_cod M_Monitor_brokenReadBeat) 56 = .ok (.bipush 7, 2) := dt_Monitor_brokenReadBeat_c1 5
theorem d_Monitor_brokenReadBeat_58 : decode (jm_cod M_Monitor_brokenReadBeat) 58 = .ok (.ireturn, 1) := dt_Monitor_brokenReadBeat_c1 6
theorem d_Monitor_brokenReadBeat_59 : decode (jm_cod M_Monitor_brokenReadBeat) 59 = .ok (.iload_n 1, 1) := dt_Monitor_brokenReadBeat_c1 7
theorem d_Monitor_brokenReadBeat_60 : decode (jm_cod M_Monitor_brokenReadBeat) 60 = .ok (.aload_n 2, 1) := dt_Monitor_brokenReadBeat_c1 8
theorem d_Monitor_brokenReadBeat_61 : decode (jm_cod M_Monitor_brokenReadBeat) 61 = .ok (.invokestatic 120, 3) := dt_Monitor_brokenReadBeat_c1 9
theorem d_Monitor_brokenReadBeat_64 : decode (jm_cod M_Monitor_brokenReadBeat) 64 = .ok (.ireturn, 1) := dt_Monitor_brokenReadBeat_c1 10
def tab_Monitor_note_c0 : List (Nat × Instr × Nat) := [(0, .iload_n 1, 1), (1, .ifCond .eq 21, 3), (4, .aload_n 0, 1), (5, .iload_n 1, 1), (6, .putfield 45, 3), (9, .aload_n 0, 1), (10, .iload_n 2, 1), (11, .putfield 35, 3), (14, .aload_n 0, 1), (15, .aload_n 0, 1), (16, .getfield 48, 3), (19, .putfield 39, 3), (22, .return_, 1)]
theorem dt_Monitor_note_c0 (i : Nat) : decode (jm_cod M_Monitor_note) (tab_Monitor_note_c0.getD i (0, .iload_n 1, 1)).1 = .ok ((tab_Monitor_note_c0.getD i (0, .iload_n 1, 1)).2.1, (tab_Monitor_note_c0.getD i (0, .iload_n 1, 1)).2.2) := j_tab (by decide +kernel) i
theorem d_Monitor_note_0 : decode (jm_cod M_Monitor_note) 0 = .ok (.iload_n 1, 1) := dt_Monitor_note_c0 0
theorem d_Monitor_note_1 : decode (jm_cod M_Monitor_note) 1 = .ok (.ifCond .eq 21, 3) := dt_Monitor_note_c0 1
theorem d_Monitor_note_4 : decode (jm_cod M_Monitor_note) 4 = .ok (.aload_n 0, 1) := dt_Monitor_note_c0 2
theorem d_Monitor_note_5 : decode (jm_cod M_Monitor_note) 5 = .ok (.iload_n 1, 1) := dt_Monitor_note_c0 3
theorem d_Monitor_note_6 : decode (jm_cod M_Monitor_note) 6 = .ok (.putfield 45, 3) := dt_Monitor_note_c0 4
theorem d_Monitor_note_9 : decode (jm_cod M_Monitor_note) 9 = .ok (.aload_n 0, 1) := dt_Monitor_note_c0 5
theorem d_Monitor_note_10 : decode (jm_cod M_Monitor_note) 10 = .ok (.iload_n 2, 1) := dt_Monitor_note_c0 6
theorem d_Monitor_note_11 : decode (jm_cod M_Monitor_note) 11 = .ok (.putfield 35, 3) := dt_Monitor_note_c0 7
theorem d_Monitor_note_14 : decode (jm_cod M_Monitor_note) 14 = .ok (.aload_n 0, 1) := dt_Monitor_note_c0 8
theorem d_Monitor_note_15 : decode (jm_cod M_Monitor_note) 15 = .ok (.aload_n 0, 1) := dt_Monitor_note_c0 9
theorem d_Monitor_note_16 : decode (jm_cod M_Monitor_note) 16 = .ok (.getfield 48, 3) := dt_Monitor_note_c0 10
theorem d_Monitor_note_19 : decode (jm_cod M_Monitor_note) 19 = .ok (.putfield 39, 3) := dt_Monitor_note_c0 11
theorem d_Monitor_note_22 : decode (jm_cod M_Monitor_note) 22 = .ok (.return_, 1) := dt_Monitor_note_c0 12
def tab_Monitor_takeAnswers_c0 : List (Nat × Instr × Nat) := [(0, .aload_n 1, 1), (1, .iconst 2, 1), (2, .invokevirtual 63, 3), (5, .ifCond .eq 26, 3), (8, .aload_n 0, 1), (9, .getfield 14, 3), (12, .aload_n 0, 1), (13, .getfield 14, 3), (16, .aload_n 1, 1), (17, .getfield 80, 3), (20, .iconst 2, 1), (21, .iaload, 1), (22, .invokestatic 110, 3), (25, .invokevirtual 113, 3), (28, .invokevirtual 147, 3), (31, .aload_n 1, 1), (32, .iconst 4, 1), (33, .invokevirtual 63, 3), (36, .ifCond .eq 13, 3), (39, .aload_n 0, 1), (40, .aload_n 1, 1), (41, .getfield 80, 3), (44, .iconst 4, 1), (45, .iaload, 1)]
theorem dt_Monitor_takeAnswers_c0 (i : Nat) : decode (jm_cod M_Monitor_takeAnswers) (tab_Monitor_takeAnswers_c0.getD i (0, .aload_n 1, 1)).1 = .ok ((tab_Monitor_takeAnswers_c0.getD i (0, .aload_n 1, 1)).2.1, (tab_Monitor_takeAnswers_c0.getD i (0, .aload_n 1, 1)).2.2) := j_tab (by decide +kernel) i
theorem d_Monitor_takeAnswers_0 : decode (jm_cod M_Monitor_takeAnswers) 0 = .ok (.aload_n 1, 1) := dt_Monitor_takeAnswers_c0 0
theorem d_Monitor_takeAnswers_1 : decode (jm_cod M_Monitor_takeAnswers) 1 = .ok (.iconst 2, 1) := dt_Monitor_takeAnswers_c0 1
theorem d_Monitor_takeAnswers_2 : decode (jm_cod M_Monitor_takeAnswers) 2 = .ok (.invokevirtual 63, 3) := dt_Monitor_takeAnswers_c0 2
theorem d_Monitor_takeAnswers_5 : decode (jm_cod M_Monitor_takeAnswers) 5 = .ok (.ifCond .eq 26, 3) := dt_Monitor_takeAnswers_c0 3
theorem d_Monitor_takeAnswers_8 : decode (jm_cod M_Monitor_takeAnswers) 8 = .ok (.aload_n 0, 1) := dt_Monitor_takeAnswers_c0 4
theorem d_Monitor_takeAnswers_9 : decode (jm_cod M_Monitor_takeAnswers) 9 = .ok (.getfield 14, 3) := dt_Monitor_takeAnswers_c0 5
theorem d_Monitor_takeAnswers_12 : decode (jm_cod M_Monitor_takeAnswers) 12 = .ok (.aload_n 0, 1) := dt_Monitor_takeAnswers_c0 6
theorem d_Monitor_takeAnswers_13 : decode (jm_cod M_Monitor_takeAnswers) 13 = .ok (.getfield 14, 3) := dt_Monitor_takeAnswers_c0 7
theorem d_Monitor_takeAnswers_16 : decode (jm_cod M_Monitor_takeAnswers) 16 = .ok (.aload_n 1, 1) := dt_Monitor_takeAnswers_c0 8
theorem d_Monitor_takeAnswers_17 : decode (jm_cod M_Monitor_takeAnswers) 17 = .ok (.getfield 80, 3) := dt_Monitor_takeAnswers_c0 9
theorem d_Monitor_takeAnswers_20 : decode (jm_cod M_Monitor_takeAnswers) 20 = .ok (.iconst 2, 1) := dt_Monitor_takeAnswers_c0 10
theorem d_Monitor_takeAnswers_21 : decode (jm_cod M_Monitor_takeAnswers) 21 = .ok (.iaload, 1) := dt_Monitor_takeAnswers_c0 11
theorem d_Monitor_takeAnswers_22 : decode (jm_cod M_Monitor_takeAnswers) 22 = .ok (.invokestatic 110, 3) := dt_Monitor_takeAnswers_c0 12
theorem d_Monitor_takeAnswers_25 : decode (jm_cod M_Monitor_takeAnswers) 25 = .ok (.invokevirtual 113, 3) := dt_Monitor_takeAnswers_c0 13
theorem d_Monitor_takeAnswers_28 : decode (jm_cod M_Monitor_takeAnswers) 28 = .ok (.invokevirtual 147, 3) := dt_Monitor_takeAnswers_c0 14
theorem d_Monitor_takeAnswers_31 : decode (jm_cod M_Monitor_takeAnswers) 31 = .ok (.aload_n 1, 1) := dt_Monitor_takeAnswers_c0 15
theorem d_Monitor_takeAnswers_32 : decode (jm_cod M_Monitor_takeAnswers) 32 = .ok (.iconst 4, 1) := dt_Monitor_takeAnswers_c0 16
theorem d_Monitor_takeAnswers_33 : decode (jm_cod M_Monitor_takeAnswers) 33 = .ok (.invokevirtual 63, 3) := dt_Monitor_takeAnswers_c0 17
theorem d_Monitor_takeAnswers_36 : decode (jm_cod M_Monitor_takeAnswers) 36 = .ok (.ifCond .eq 13, 3) := dt_Monitor_takeAnswers_c0 18
theorem d_Monitor_takeAnswers_39 : decode (jm_cod M_Monitor_takeAnswers) 39 = .ok (.aload_n 0, 1) := dt_Monitor_takeAnswers_c0 19
theorem d_Monitor_takeAnswers_40 : decode (jm_cod M_Monitor_takeAnswers) 40 = .ok (.aload_n 1, 1) := dt_Monitor_takeAnswers_c0 20
theorem d_Monitor_takeAnswers_41 : decode (jm_cod M_Monitor_takeAnswers) 41 = .ok (.getfield 80, 3) := dt_Monitor_takeAnswers_c0 21
theorem d_Monitor_takeAnswers_44 : decode (jm_cod M_Monitor_takeAnswers) 44 = .ok (.iconst 4, 1) := dt_Monitor_takeAnswers_c0 22
theorem d_Monitor_takeAnswers_45 : decode (jm_cod M_Monitor_takeAnswers) 45 = .ok (.iaload, 1) := dt_Monitor_takeAnswers_c0 23
def tab_Monitor_takeAnswers_c1 : List (Nat × Instr × Nat) := [(46, .invokevirtual 150, 3), (49, .return_, 1)]
theorem dt_Monitor_takeAnswers_c1 (i : Nat) : decode (jm_cod M_Monitor_takeAnswers) (tab_Monitor_takeAnswers_c1.getD i (46, .invokevirtual 150, 3)).1 = .ok ((tab_Monitor_takeAnswers_c1.getD i (46, .invokevirtual 150, 3)).2.1, (tab_Monitor_takeAnswers_c1.getD i (46, .invokevirtual 150, 3)).2.2) := j_tab (by decide +kernel) i
theorem d_Monitor_takeAnswers_46 : decode (jm_cod M_Monitor_takeAnswers) 46 = .ok (.invokevirtual 150, 3) := dt_Monitor_takeAnswers_c1 0
theorem d_Monitor_takeAnswers_49 : decode (jm_cod M_Monitor_takeAnswers) 49 = .ok (.return_, 1) := dt_Monitor_takeAnswers_c1 1
def tab_Monitor_takeReadBeat_c0 : List (Nat × Instr × Nat) := [(0, .aload_n 0, 1), (1, .getfield 20, 3), (4, .iload_n 1, 1), (5, .invokestatic 110, 3), (8, .invokevirtual 124, 3), (11, .istore_n 2, 1), (12, .aload_n 0, 1), (13, .getfield 20, 3), (16, .iload_n 2, 1), (17, .invokevirtual 116, 3), (20, .astore_n 3, 1), (21, .aload_n 3, 1), (22, .ifnonnull 4, 3), (25, .return_, 1), (26, .aload_n 3, 1), (27, .dup, 1), (28, .getfield 127, 3), (31, .iconst 1, 1), (32, .iadd, 1), (33, .putfield 127, 3), (36, .aload_n 3, 1), (37, .getfield 127, 3), (40, .aload_n 3, 1), (41, .getfield 130, 3)]
theorem dt_Monitor_takeReadBeat_c0 (i : Nat) : decode (jm_cod M_Monitor_takeReadBeat) (tab_Monitor_takeReadBeat_c0.getD i (0, .aload_n 0, 1)).1 = .ok ((tab_Monitor_takeReadBeat_c0.getD i (0, .aload_n 0, 1)).2.1, (tab_Monitor_takeReadBeat_c0.getD i (0, .aload_n 0, 1)).2.2) := j_tab (by decide +kernel) i
theorem d_Monitor_takeReadBeat_0 : decode (jm_cod M_Monitor_takeReadBeat) 0 = .ok (.aload_n 0, 1) := dt_Monitor_takeReadBeat_c0 0
theorem d_Monitor_takeReadBeat_1 : decode (jm_cod M_Monitor_takeReadBeat) 1 = .ok (.getfield 20, 3) := dt_Monitor_takeReadBeat_c0 1
theorem d_Monitor_takeReadBeat_4 : decode (jm_cod M_Monitor_takeReadBeat) 4 = .ok (.iload_n 1, 1) := dt_Monitor_takeReadBeat_c0 2
theorem d_Monitor_takeReadBeat_5 : decode (jm_cod M_Monitor_takeReadBeat) 5 = .ok (.invokestatic 110, 3) := dt_Monitor_takeReadBeat_c0 3
theorem d_Monitor_takeReadBeat_8 : decode (jm_cod M_Monitor_takeReadBeat) 8 = .ok (.invokevirtual 124, 3) := dt_Monitor_takeReadBeat_c0 4
theorem d_Monitor_takeReadBeat_11 : decode (jm_cod M_Monitor_takeReadBeat) 11 = .ok (.istore_n 2, 1) := dt_Monitor_takeReadBeat_c0 5
theorem d_Monitor_takeReadBeat_12 : decode (jm_cod M_Monitor_takeReadBeat) 12 = .ok (.aload_n 0, 1) := dt_Monitor_takeReadBeat_c0 6
theorem d_Monitor_takeReadBeat_13 : decode (jm_cod M_Monitor_takeReadBeat) 13 = .ok (.getfield 20, 3) := dt_Monitor_takeReadBeat_c0 7
theorem d_Monitor_takeReadBeat_16 : decode (jm_cod M_Monitor_takeReadBeat) 16 = .ok (.iload_n 2, 1) := dt_Monitor_takeReadBeat_c0 8
theorem d_Monitor_takeReadBeat_17 : decode (jm_cod M_Monitor_takeReadBeat) 17 = .ok (.invokevirtual 116, 3) := dt_Monitor_takeReadBeat_c0 9
theorem d_Monitor_takeReadBeat_20 : decode (jm_cod M_Monitor_takeReadBeat) 20 = .ok (.astore_n 3, 1) := dt_Monitor_takeReadBeat_c0 10
theorem d_Monitor_takeReadBeat_21 : decode (jm_cod M_Monitor_takeReadBeat) 21 = .ok (.aload_n 3, 1) := dt_Monitor_takeReadBeat_c0 11
theorem d_Monitor_takeReadBeat_22 : decode (jm_cod M_Monitor_takeReadBeat) 22 = .ok (.ifnonnull 4, 3) := dt_Monitor_takeReadBeat_c0 12
theorem d_Monitor_takeReadBeat_25 : decode (jm_cod M_Monitor_takeReadBeat) 25 = .ok (.return_, 1) := dt_Monitor_takeReadBeat_c0 13
theorem d_Monitor_takeReadBeat_26 : decode (jm_cod M_Monitor_takeReadBeat) 26 = .ok (.aload_n 3, 1) := dt_Monitor_takeReadBeat_c0 14
theorem d_Monitor_takeReadBeat_27 : decode (jm_cod M_Monitor_takeReadBeat) 27 = .ok (.dup, 1) := dt_Monitor_takeReadBeat_c0 15
theorem d_Monitor_takeReadBeat_28 : decode (jm_cod M_Monitor_takeReadBeat) 28 = .ok (.getfield 127, 3) := dt_Monitor_takeReadBeat_c0 16
theorem d_Monitor_takeReadBeat_31 : decode (jm_cod M_Monitor_takeReadBeat) 31 = .ok (.iconst 1, 1) := dt_Monitor_takeReadBeat_c0 17
theorem d_Monitor_takeReadBeat_32 : decode (jm_cod M_Monitor_takeReadBeat) 32 = .ok (.iadd, 1) := dt_Monitor_takeReadBeat_c0 18
theorem d_Monitor_takeReadBeat_33 : decode (jm_cod M_Monitor_takeReadBeat) 33 = .ok (.putfield 127, 3) := dt_Monitor_takeReadBeat_c0 19
theorem d_Monitor_takeReadBeat_36 : decode (jm_cod M_Monitor_takeReadBeat) 36 = .ok (.aload_n 3, 1) := dt_Monitor_takeReadBeat_c0 20
theorem d_Monitor_takeReadBeat_37 : decode (jm_cod M_Monitor_takeReadBeat) 37 = .ok (.getfield 127, 3) := dt_Monitor_takeReadBeat_c0 21
theorem d_Monitor_takeReadBeat_40 : decode (jm_cod M_Monitor_takeReadBeat) 40 = .ok (.aload_n 3, 1) := dt_Monitor_takeReadBeat_c0 22
theorem d_Monitor_takeReadBeat_41 : decode (jm_cod M_Monitor_takeReadBeat) 41 = .ok (.getfield 130, 3) := dt_Monitor_takeReadBeat_c0 23
def tab_Monitor_takeReadBeat_c1 : List (Nat × Instr × Nat) := [(44, .invokestatic 134, 3), (47, .if_icmp .lt 11, 3), (50, .aload_n 0, 1), (51, .getfield 20, 3), (54, .iload_n 2, 1), (55, .invokevirtual 147, 3), (58, .return_, 1)]
theorem dt_Monitor_takeReadBeat_c1 (i : Nat) : decode (jm_cod M_Monitor_takeReadBeat) (tab_Monitor_takeReadBeat_c1.getD i (44, .invokestatic 134, 3)).1 = .ok ((tab_Monitor_takeReadBeat_c1.getD i (44, .invokestatic 134, 3)).2.1, (tab_Monitor_takeReadBeat_c1.getD i (44, .invokestatic 134, 3)).2.2) := j_tab (by decide +kernel) i
theorem d_Monitor_takeReadBeat_44 : decode (jm_cod M_Monitor_takeReadBeat) 44 = .ok (.invokestatic 134, 3) := dt_Monitor_takeReadBeat_c1 0
theorem d_Monitor_takeReadBeat_47 : decode (jm_cod M_Monitor_takeReadBeat) 47 = .ok (.if_icmp .lt 11, 3) := dt_Monitor_takeReadBeat_c1 1
theorem d_Monitor_takeReadBeat_50 : decode (jm_cod M_Monitor_takeReadBeat) 50 = .ok (.aload_n 0, 1) := dt_Monitor_takeReadBeat_c1 2
theorem d_Monitor_takeReadBeat_51 : decode (jm_cod M_Monitor_takeReadBeat) 51 = .ok (.getfield 20, 3) := dt_Monitor_takeReadBeat_c1 3
theorem d_Monitor_takeReadBeat_54 : decode (jm_cod M_Monitor_takeReadBeat) 54 = .ok (.iload_n 2, 1) := dt_Monitor_takeReadBeat_c1 4
theorem d_Monitor_takeReadBeat_55 : decode (jm_cod M_Monitor_takeReadBeat) 55 = .ok (.invokevirtual 147, 3) := dt_Monitor_takeReadBeat_c1 5
theorem d_Monitor_takeReadBeat_58 : decode (jm_cod M_Monitor_takeReadBeat) 58 = .ok (.return_, 1) := dt_Monitor_takeReadBeat_c1 6
def tab_Monitor_takeWriteAddress_c0 : List (Nat × Instr × Nat) := [(0, .aload_n 0, 1), (1, .getfield 14, 3), (4, .aload_n 0, 1), (5, .getfield 14, 3), (8, .invokevirtual 153, 3), (11, .invokevirtual 116, 3), (14, .astore_n 3, 1), (15, .aload_n 3, 1), (16, .ifnonnull 12, 3), (19, .aload_n 0, 1), (20, .getfield 14, 3), (23, .lload_n 1, 1), (24, .invokevirtual 72, 3), (27, .astore_n 3, 1), (28, .aload_n 3, 1), (29, .ifnonnull 6, 3), (32, .bipush 12, 2), (34, .ireturn, 1), (35, .aload_n 3, 1), (36, .lload_n 1, 1), (37, .putfield 130, 3), (40, .aload_n 3, 1), (41, .iconst 1, 1), (42, .putfield 157, 3)]
theorem dt_Monitor_takeWriteAddress_c0 (i : Nat) : decode (jm_cod M_Monitor_takeWriteAddress) (tab_Monitor_takeWriteAddress_c0.getD i (0, .aload_n 0, 1)).1 = .ok ((tab_Monitor_takeWriteAddress_c0.getD i (0, .aload_n 0, 1)).2.1, (tab_Monitor_takeWriteAddress_c0.getD i (0, .aload_n 0, 1)).2.2) := j_tab (by decide +kernel) i
theorem d_Monitor_takeWriteAddress_0 : decode (jm_cod M_Monitor_takeWriteAddress) 0 = .ok (.aload_n 0, 1) := dt_Monitor_takeWriteAddress_c0 0
theorem d_Monitor_takeWriteAddress_1 : decode (jm_cod M_Monitor_takeWriteAddress) 1 = .ok (.getfield 14, 3) := dt_Monitor_takeWriteAddress_c0 1
theorem d_Monitor_takeWriteAddress_4 : decode (jm_cod M_Monitor_takeWriteAddress) 4 = .ok (.aload_n 0, 1) := dt_Monitor_takeWriteAddress_c0 2
theorem d_Monitor_takeWriteAddress_5 : decode (jm_cod M_Monitor_takeWriteAddress) 5 = .ok (.getfield 14, 3) := dt_Monitor_takeWriteAddress_c0 3
theorem d_Monitor_takeWriteAddress_8 : decode (jm_cod M_Monitor_takeWriteAddress) 8 = .ok (.invokevirtual 153, 3) := dt_Monitor_takeWriteAddress_c0 4
theorem d_Monitor_takeWriteAddress_11 : decode (jm_cod M_Monitor_takeWriteAddress) 11 = .ok (.invokevirtual 116, 3) := dt_Monitor_takeWriteAddress_c0 5
theorem d_Monitor_takeWriteAddress_14 : decode (jm_cod M_Monitor_takeWriteAddress) 14 = .ok (.astore_n 3, 1) := dt_Monitor_takeWriteAddress_c0 6
theorem d_Monitor_takeWriteAddress_15 : decode (jm_cod M_Monitor_takeWriteAddress) 15 = .ok (.aload_n 3, 1) := dt_Monitor_takeWriteAddress_c0 7
theorem d_Monitor_takeWriteAddress_16 : decode (jm_cod M_Monitor_takeWriteAddress) 16 = .ok (.ifnonnull 12, 3) := dt_Monitor_takeWriteAddress_c0 8
theorem d_Monitor_takeWriteAddress_19 : decode (jm_cod M_Monitor_takeWriteAddress) 19 = .ok (.aload_n 0, 1) := dt_Monitor_takeWriteAddress_c0 9
theorem d_Monitor_takeWriteAddress_20 : decode (jm_cod M_Monitor_takeWriteAddress) 20 = .ok (.getfield 14, 3) := dt_Monitor_takeWriteAddress_c0 10
theorem d_Monitor_takeWriteAddress_23 : decode (jm_cod M_Monitor_takeWriteAddress) 23 = .ok (.lload_n 1, 1) := dt_Monitor_takeWriteAddress_c0 11
theorem d_Monitor_takeWriteAddress_24 : decode (jm_cod M_Monitor_takeWriteAddress) 24 = .ok (.invokevirtual 72, 3) := dt_Monitor_takeWriteAddress_c0 12
theorem d_Monitor_takeWriteAddress_27 : decode (jm_cod M_Monitor_takeWriteAddress) 27 = .ok (.astore_n 3, 1) := dt_Monitor_takeWriteAddress_c0 13
theorem d_Monitor_takeWriteAddress_28 : decode (jm_cod M_Monitor_takeWriteAddress) 28 = .ok (.aload_n 3, 1) := dt_Monitor_takeWriteAddress_c0 14
theorem d_Monitor_takeWriteAddress_29 : decode (jm_cod M_Monitor_takeWriteAddress) 29 = .ok (.ifnonnull 6, 3) := dt_Monitor_takeWriteAddress_c0 15
theorem d_Monitor_takeWriteAddress_32 : decode (jm_cod M_Monitor_takeWriteAddress) 32 = .ok (.bipush 12, 2) := dt_Monitor_takeWriteAddress_c0 16
theorem d_Monitor_takeWriteAddress_34 : decode (jm_cod M_Monitor_takeWriteAddress) 34 = .ok (.ireturn, 1) := dt_Monitor_takeWriteAddress_c0 17
theorem d_Monitor_takeWriteAddress_35 : decode (jm_cod M_Monitor_takeWriteAddress) 35 = .ok (.aload_n 3, 1) := dt_Monitor_takeWriteAddress_c0 18
theorem d_Monitor_takeWriteAddress_36 : decode (jm_cod M_Monitor_takeWriteAddress) 36 = .ok (.lload_n 1, 1) := dt_Monitor_takeWriteAddress_c0 19
theorem d_Monitor_takeWriteAddress_37 : decode (jm_cod M_Monitor_takeWriteAddress) 37 = .ok (.putfield 130, 3) := dt_Monitor_takeWriteAddress_c0 20
theorem d_Monitor_takeWriteAddress_40 : decode (jm_cod M_Monitor_takeWriteAddress) 40 = .ok (.aload_n 3, 1) := dt_Monitor_takeWriteAddress_c0 21
theorem d_Monitor_takeWriteAddress_41 : decode (jm_cod M_Monitor_takeWriteAddress) 41 = .ok (.iconst 1, 1) := dt_Monitor_takeWriteAddress_c0 22
theorem d_Monitor_takeWriteAddress_42 : decode (jm_cod M_Monitor_takeWriteAddress) 42 = .ok (.putfield 157, 3) := dt_Monitor_takeWriteAddress_c0 23
def tab_Monitor_takeWriteAddress_c1 : List (Nat × Instr × Nat) := [(45, .iconst 0, 1), (46, .istore 4, 2), (48, .iconst 0, 1), (49, .istore 5, 2), (51, .iload 5, 2), (53, .aload_n 3, 1), (54, .getfield 127, 3), (57, .if_icmp .ge 22, 3), (60, .iload 4, 2), (62, .ifCond .ne 17, 3), (65, .aload_n 3, 1), (66, .iload 5, 2), (68, .invokestatic 161, 3), (71, .istore 4, 2), (73, .iinc 5 1, 3), (76, .goto (-25), 3), (79, .iload 4, 2), (81, .ireturn, 1)]
theorem dt_Monitor_takeWriteAddress_c1 (i : Nat) : decode (jm_cod M_Monitor_takeWriteAddress) (tab_Monitor_takeWriteAddress_c1.getD i (45, .iconst 0, 1)).1 = .ok ((tab_Monitor_takeWriteAddress_c1.getD i (45, .iconst 0, 1)).2.1, (tab_Monitor_takeWriteAddress_c1.getD i (45, .iconst 0, 1)).2.2) := j_tab (by decide +kernel) i
theorem d_Monitor_takeWriteAddress_45 : decode (jm_cod M_Monitor_takeWriteAddress) 45 = .ok (.iconst 0, 1) := dt_Monitor_takeWriteAddress_c1 0
theorem d_Monitor_takeWriteAddress_46 : decode (jm_cod M_Monitor_takeWriteAddress) 46 = .ok (.istore 4, 2) := dt_Monitor_takeWriteAddress_c1 1
theorem d_Monitor_takeWriteAddress_48 : decode (jm_cod M_Monitor_takeWriteAddress) 48 = .ok (.iconst 0, 1) := dt_Monitor_takeWriteAddress_c1 2
theorem d_Monitor_takeWriteAddress_49 : decode (jm_cod M_Monitor_takeWriteAddress) 49 = .ok (.istore 5, 2) := dt_Monitor_takeWriteAddress_c1 3
theorem d_Monitor_takeWriteAddress_51 : decode (jm_cod M_Monitor_takeWriteAddress) 51 = .ok (.iload 5, 2) := dt_Monitor_takeWriteAddress_c1 4
theorem d_Monitor_takeWriteAddress_53 : decode (jm_cod M_Monitor_takeWriteAddress) 53 = .ok (.aload_n 3, 1) := dt_Monitor_takeWriteAddress_c1 5
theorem d_Monitor_takeWriteAddress_54 : decode (jm_cod M_Monitor_takeWriteAddress) 54 = .ok (.getfield 127, 3) := dt_Monitor_takeWriteAddress_c1 6
theorem d_Monitor_takeWriteAddress_57 : decode (jm_cod M_Monitor_takeWriteAddress) 57 = .ok (.if_icmp .ge 22, 3) := dt_Monitor_takeWriteAddress_c1 7
theorem d_Monitor_takeWriteAddress_60 : decode (jm_cod M_Monitor_takeWriteAddress) 60 = .ok (.iload 4, 2) := dt_Monitor_takeWriteAddress_c1 8
theorem d_Monitor_takeWriteAddress_62 : decode (jm_cod M_Monitor_takeWriteAddress) 62 = .ok (.ifCond .ne 17, 3) := dt_Monitor_takeWriteAddress_c1 9
theorem d_Monitor_takeWriteAddress_65 : decode (jm_cod M_Monitor_takeWriteAddress) 65 = .ok (.aload_n 3, 1) := dt_Monitor_takeWriteAddress_c1 10
theorem d_Monitor_takeWriteAddress_66 : decode (jm_cod M_Monitor_takeWriteAddress) 66 = .ok (.iload 5, 2) := dt_Monitor_takeWriteAddress_c1 11
theorem d_Monitor_takeWriteAddress_68 : decode (jm_cod M_Monitor_takeWriteAddress) 68 = .ok (.invokestatic 161, 3) := dt_Monitor_takeWriteAddress_c1 12
theorem d_Monitor_takeWriteAddress_71 : decode (jm_cod M_Monitor_takeWriteAddress) 71 = .ok (.istore 4, 2) := dt_Monitor_takeWriteAddress_c1 13
theorem d_Monitor_takeWriteAddress_73 : decode (jm_cod M_Monitor_takeWriteAddress) 73 = .ok (.iinc 5 1, 3) := dt_Monitor_takeWriteAddress_c1 14
theorem d_Monitor_takeWriteAddress_76 : decode (jm_cod M_Monitor_takeWriteAddress) 76 = .ok (.goto (-25), 3) := dt_Monitor_takeWriteAddress_c1 15
theorem d_Monitor_takeWriteAddress_79 : decode (jm_cod M_Monitor_takeWriteAddress) 79 = .ok (.iload 4, 2) := dt_Monitor_takeWriteAddress_c1 16
theorem d_Monitor_takeWriteAddress_81 : decode (jm_cod M_Monitor_takeWriteAddress) 81 = .ok (.ireturn, 1) := dt_Monitor_takeWriteAddress_c1 17
def tab_Monitor_brokenWriteBeat_c0 : List (Nat × Instr × Nat) := [(0, .iload_n 1, 1), (1, .ifCond .lt 9, 3), (4, .iload_n 1, 1), (5, .bipush 16, 2), (7, .if_icmp .lt 5, 3), (10, .iconst 0, 1), (11, .ireturn, 1), (12, .aload_n 0, 1), (13, .getfield 175, 3), (16, .iload_n 1, 1), (17, .iaload, 1), (18, .istore_n 2, 1), (19, .iload_n 1, 1), (20, .aload_n 0, 1), (21, .getfield 130, 3), (24, .invokestatic 134, 3), (27, .iconst 1, 1), (28, .isub, 1), (29, .if_icmp .ne 7, 3), (32, .iconst 1, 1), (33, .goto 4, 3), (36, .iconst 0, 1), (37, .istore_n 3, 1), (38, .iload_n 3, 1)]
theorem dt_Monitor_brokenWriteBeat_c0 (i : Nat) : decode (jm_cod M_Monitor_brokenWriteBeat) (tab_Monitor_brokenWriteBeat_c0.getD i (0, .iload_n 1, 1)).1 = .ok ((tab_Monitor_brokenWriteBeat_c0.getD i (0, .iload_n 1, 1)).2.1, (tab_Monitor_brokenWriteBeat_c0.getD i (0, .iload_n 1, 1)).2.2) := j_tab (by decide +kernel) i
theorem d_Monitor_brokenWriteBeat_0 : decode (jm_cod M_Monitor_brokenWriteBeat) 0 = .ok (.iload_n 1, 1) := dt_Monitor_brokenWriteBeat_c0 0
theorem d_Monitor_brokenWriteBeat_1 : decode (jm_cod M_Monitor_brokenWriteBeat) 1 = .ok (.ifCond .lt 9, 3) := dt_Monitor_brokenWriteBeat_c0 1
theorem d_Monitor_brokenWriteBeat_4 : decode (jm_cod M_Monitor_brokenWriteBeat) 4 = .ok (.iload_n 1, 1) := dt_Monitor_brokenWriteBeat_c0 2
theorem d_Monitor_brokenWriteBeat_5 : decode (jm_cod M_Monitor_brokenWriteBeat) 5 = .ok (.bipush 16, 2) := dt_Monitor_brokenWriteBeat_c0 3
theorem d_Monitor_brokenWriteBeat_7 : decode (jm_cod M_Monitor_brokenWriteBeat) 7 = .ok (.if_icmp .lt 5, 3) := dt_Monitor_brokenWriteBeat_c0 4
theorem d_Monitor_brokenWriteBeat_10 : decode (jm_cod M_Monitor_brokenWriteBeat) 10 = .ok (.iconst 0, 1) := dt_Monitor_brokenWriteBeat_c0 5
theorem d_Monitor_brokenWriteBeat_11 : decode (jm_cod M_Monitor_brokenWriteBeat) 11 = .ok (.ireturn, 1) := dt_Monitor_brokenWriteBeat_c0 6
theorem d_Monitor_brokenWriteBeat_12 : decode (jm_cod M_Monitor_brokenWriteBeat) 12 = .ok (.aload_n 0, 1) := dt_Monitor_brokenWriteBeat_c0 7
theorem d_Monitor_brokenWriteBeat_13 : decode (jm_cod M_Monitor_brokenWriteBeat) 13 = .ok (.getfield 175, 3) := dt_Monitor_brokenWriteBeat_c0 8
theorem d_Monitor_brokenWriteBeat_16 : decode (jm_cod M_Monitor_brokenWriteBeat) 16 = .ok (.iload_n 1, 1) := dt_Monitor_brokenWriteBeat_c0 9
theorem d_Monitor_brokenWriteBeat_17 : decode (jm_cod M_Monitor_brokenWriteBeat) 17 = .ok (.iaload, 1) := dt_Monitor_brokenWriteBeat_c0 10
theorem d_Monitor_brokenWriteBeat_18 : decode (jm_cod M_Monitor_brokenWriteBeat) 18 = .ok (.istore_n 2, 1) := dt_Monitor_brokenWriteBeat_c0 11
theorem d_Monitor_brokenWriteBeat_19 : decode (jm_cod M_Monitor_brokenWriteBeat) 19 = .ok (.iload_n 1, 1) := dt_Monitor_brokenWriteBeat_c0 12
theorem d_Monitor_brokenWriteBeat_20 : decode (jm_cod M_Monitor_brokenWriteBeat) 20 = .ok (.aload_n 0, 1) := dt_Monitor_brokenWriteBeat_c0 13
theorem d_Monitor_brokenWriteBeat_21 : decode (jm_cod M_Monitor_brokenWriteBeat) 21 = .ok (.getfield 130, 3) := dt_Monitor_brokenWriteBeat_c0 14
theorem d_Monitor_brokenWriteBeat_24 : decode (jm_cod M_Monitor_brokenWriteBeat) 24 = .ok (.invokestatic 134, 3) := dt_Monitor_brokenWriteBeat_c0 15
theorem d_Monitor_brokenWriteBeat_27 : decode (jm_cod M_Monitor_brokenWriteBeat) 27 = .ok (.iconst 1, 1) := dt_Monitor_brokenWriteBeat_c0 16
theorem d_Monitor_brokenWriteBeat_28 : decode (jm_cod M_Monitor_brokenWriteBeat) 28 = .ok (.isub, 1) := dt_Monitor_brokenWriteBeat_c0 17
theorem d_Monitor_brokenWriteBeat_29 : decode (jm_cod M_Monitor_brokenWriteBeat) 29 = .ok (.if_icmp .ne 7, 3) := dt_Monitor_brokenWriteBeat_c0 18
theorem d_Monitor_brokenWriteBeat_32 : decode (jm_cod M_Monitor_brokenWriteBeat) 32 = .ok (.iconst 1, 1) := dt_Monitor_brokenWriteBeat_c0 19
theorem d_Monitor_brokenWriteBeat_33 : decode (jm_cod M_Monitor_brokenWriteBeat) 33 = .ok (.goto 4, 3) := dt_Monitor_brokenWriteBeat_c0 20
theorem d_Monitor_brokenWriteBeat_36 : decode (jm_cod M_Monitor_brokenWriteBeat) 36 = .ok (.iconst 0, 1) := dt_Monitor_brokenWriteBeat_c0 21
theorem d_Monitor_brokenWriteBeat_37 : decode (jm_cod M_Monitor_brokenWriteBeat) 37 = .ok (.istore_n 3, 1) := dt_Monitor_brokenWriteBeat_c0 22
theorem d_Monitor_brokenWriteBeat_38 : decode (jm_cod M_Monitor_brokenWriteBeat) 38 = .ok (.iload_n 3, 1) := dt_Monitor_brokenWriteBeat_c0 23
def tab_Monitor_brokenWriteBeat_c1 : List (Nat × Instr × Nat) := [(39, .iload_n 2, 1), (40, .invokestatic 137, 3), (43, .if_icmp .ne 14, 3), (46, .iload_n 1, 1), (47, .aload_n 0, 1), (48, .getfield 130, 3), (51, .invokestatic 134, 3), (54, .if_icmp .lt 6, 3), (57, .bipush 7, 2), (59, .ireturn, 1), (60, .iload_n 2, 1), (61, .sipush 255, 3), (64, .iand, 1), (65, .istore 4, 2), (67, .iload 4, 2), (69, .aload_n 0, 1), (70, .getfield 130, 3), (73, .iload_n 1, 1), (74, .invokestatic 176, 3), (77, .iconst (-1), 1), (78, .ixor, 1), (79, .iand, 1), (80, .ifCond .eq 8, 3), (83, .bipush 8, 2)]
theorem dt_Monitor_brokenWriteBeat_c1 (i : Nat) : decode (jm_cod M_Monitor_brokenWriteBeat) (tab_Monitor_brokenWriteBeat_c1.getD i (39, .iload_n 2, 1)).1 = .ok ((tab_Monitor_brokenWriteBeat_c1.getD i (39, .iload_n 2, 1)).2.1, (tab_Monitor_brokenWriteBeat_c1.getD i (39, .iload_n 2, 1)).2.2) := j_tab (by decide +kernel) i
theorem d_Monitor_brokenWriteBeat_39 : decode (jm_cod M_Monitor_brokenWriteBeat) 39 = .ok (.iload_n 2, 1) := dt_Monitor_brokenWriteBeat_c1 0
theorem d_Monitor_brokenWriteBeat_40 : decode (jm_cod M_Monitor_brokenWriteBeat) 40 = .ok (.invokestatic 137, 3) := dt_Monitor_brokenWriteBeat_c1 1
theorem d_Monitor_brokenWriteBeat_43 : decode (jm_cod M_Monitor_brokenWriteBeat) 43 = .ok (.if_icmp .ne 14, 3) := dt_Monitor_brokenWriteBeat_c1 2
theorem d_Monitor_brokenWriteBeat_46 : decode (jm_cod M_Monitor_brokenWriteBeat) 46 = .ok (.iload_n 1, 1) := dt_Monitor_brokenWriteBeat_c1 3
theorem d_Monitor_brokenWriteBeat_47 : decode (jm_cod M_Monitor_brokenWriteBeat) 47 = .ok (.aload_n 0, 1) := dt_Monitor_brokenWriteBeat_c1 4
theorem d_Monitor_brokenWriteBeat_48 : decode (jm_cod M_Monitor_brokenWriteBeat) 48 = .ok (.getfield 130, 3) := dt_Monitor_brokenWriteBeat_c1 5
theorem d_Monitor_brokenWriteBeat_51 : decode (jm_cod M_Monitor_brokenWriteBeat) 51 = .ok (.invokestatic 134, 3) := dt_Monitor_brokenWriteBeat_c1 6
theorem d_Monitor_brokenWriteBeat_54 : decode (jm_cod M_Monitor_brokenWriteBeat) 54 = .ok (.if_icmp .lt 6, 3) := dt_Monitor_brokenWriteBeat_c1 7
theorem d_Monitor_brokenWriteBeat_57 : decode (jm_cod M_Monitor_brokenWriteBeat) 57 = .ok (.bipush 7, 2) := dt_Monitor_brokenWriteBeat_c1 8
theorem d_Monitor_brokenWriteBeat_59 : decode (jm_cod M_Monitor_brokenWriteBeat) 59 = .ok (.ireturn, 1) := dt_Monitor_brokenWriteBeat_c1 9
theorem d_Monitor_brokenWriteBeat_60 : decode (jm_cod M_Monitor_brokenWriteBeat) 60 = .ok (.iload_n 2, 1) := dt_Monitor_brokenWriteBeat_c1 10
theorem d_Monitor_brokenWriteBeat_61 : decode (jm_cod M_Monitor_brokenWriteBeat) 61 = .ok (.sipush 255, 3) := dt_Monitor_brokenWriteBeat_c1 11
theorem d_Monitor_brokenWriteBeat_64 : decode (jm_cod M_Monitor_brokenWriteBeat) 64 = .ok (.iand, 1) := dt_Monitor_brokenWriteBeat_c1 12
theorem d_Monitor_brokenWriteBeat_65 : decode (jm_cod M_Monitor_brokenWriteBeat) 65 = .ok (.istore 4, 2) := dt_Monitor_brokenWriteBeat_c1 13
theorem d_Monitor_brokenWriteBeat_67 : decode (jm_cod M_Monitor_brokenWriteBeat) 67 = .ok (.iload 4, 2) := dt_Monitor_brokenWriteBeat_c1 14
theorem d_Monitor_brokenWriteBeat_69 : decode (jm_cod M_Monitor_brokenWriteBeat) 69 = .ok (.aload_n 0, 1) := dt_Monitor_brokenWriteBeat_c1 15
theorem d_Monitor_brokenWriteBeat_70 : decode (jm_cod M_Monitor_brokenWriteBeat) 70 = .ok (.getfield 130, 3) := dt_Monitor_brokenWriteBeat_c1 16
theorem d_Monitor_brokenWriteBeat_73 : decode (jm_cod M_Monitor_brokenWriteBeat) 73 = .ok (.iload_n 1, 1) := dt_Monitor_brokenWriteBeat_c1 17
theorem d_Monitor_brokenWriteBeat_74 : decode (jm_cod M_Monitor_brokenWriteBeat) 74 = .ok (.invokestatic 176, 3) := dt_Monitor_brokenWriteBeat_c1 18
theorem d_Monitor_brokenWriteBeat_77 : decode (jm_cod M_Monitor_brokenWriteBeat) 77 = .ok (.iconst (-1), 1) := dt_Monitor_brokenWriteBeat_c1 19
theorem d_Monitor_brokenWriteBeat_78 : decode (jm_cod M_Monitor_brokenWriteBeat) 78 = .ok (.ixor, 1) := dt_Monitor_brokenWriteBeat_c1 20
theorem d_Monitor_brokenWriteBeat_79 : decode (jm_cod M_Monitor_brokenWriteBeat) 79 = .ok (.iand, 1) := dt_Monitor_brokenWriteBeat_c1 21
theorem d_Monitor_brokenWriteBeat_80 : decode (jm_cod M_Monitor_brokenWriteBeat) 80 = .ok (.ifCond .eq 8, 3) := dt_Monitor_brokenWriteBeat_c1 22
theorem d_Monitor_brokenWriteBeat_83 : decode (jm_cod M_Monitor_brokenWriteBeat) 83 = .ok (.bipush 8, 2) := dt_Monitor_brokenWriteBeat_c1 23
def tab_Monitor_brokenWriteBeat_c2 : List (Nat × Instr × Nat) := [(85, .goto 4, 3), (88, .iconst 0, 1), (89, .ireturn, 1)]
theorem dt_Monitor_brokenWriteBeat_c2 (i : Nat) : decode (jm_cod M_Monitor_brokenWriteBeat) (tab_Monitor_brokenWriteBeat_c2.getD i (85, .goto 4, 3)).1 = .ok ((tab_Monitor_brokenWriteBeat_c2.getD i (85, .goto 4, 3)).2.1, (tab_Monitor_brokenWriteBeat_c2.getD i (85, .goto 4, 3)).2.2) := j_tab (by decide +kernel) i
theorem d_Monitor_brokenWriteBeat_85 : decode (jm_cod M_Monitor_brokenWriteBeat) 85 = .ok (.goto 4, 3) := dt_Monitor_brokenWriteBeat_c2 0
theorem d_Monitor_brokenWriteBeat_88 : decode (jm_cod M_Monitor_brokenWriteBeat) 88 = .ok (.iconst 0, 1) := dt_Monitor_brokenWriteBeat_c2 1
theorem d_Monitor_brokenWriteBeat_89 : decode (jm_cod M_Monitor_brokenWriteBeat) 89 = .ok (.ireturn, 1) := dt_Monitor_brokenWriteBeat_c2 2
def tab_Monitor_takeWriteBeat_c0 : List (Nat × Instr × Nat) := [(0, .aload_n 0, 1), (1, .getfield 14, 3), (4, .aload_n 0, 1), (5, .getfield 14, 3), (8, .invokevirtual 165, 3), (11, .invokevirtual 116, 3), (14, .astore_n 2, 1), (15, .aload_n 2, 1), (16, .ifnonnull 12, 3), (19, .aload_n 0, 1), (20, .getfield 14, 3), (23, .lconst 0, 1), (24, .invokevirtual 72, 3), (27, .astore_n 2, 1), (28, .aload_n 2, 1), (29, .ifnonnull 6, 3), (32, .bipush 12, 2), (34, .ireturn, 1), (35, .aload_n 2, 1), (36, .getfield 127, 3), (39, .bipush 16, 2), (41, .if_icmp .lt 6, 3), (44, .bipush 7, 2), (46, .ireturn, 1)]
theorem dt_Monitor_takeWriteBeat_c0 (i : Nat) : decode (jm_cod M_Monitor_takeWriteBeat) (tab_Monitor_takeWriteBeat_c0.getD i (0, .aload_n 0, 1)).1 = .ok ((tab_Monitor_takeWriteBeat_c0.getD i (0, .aload_n 0, 1)).2.1, (tab_Monitor_takeWriteBeat_c0.getD i (0, .aload_n 0, 1)).2.2) := j_tab (by decide +kernel) i
theorem d_Monitor_takeWriteBeat_0 : decode (jm_cod M_Monitor_takeWriteBeat) 0 = .ok (.aload_n 0, 1) := dt_Monitor_takeWriteBeat_c0 0
theorem d_Monitor_takeWriteBeat_1 : decode (jm_cod M_Monitor_takeWriteBeat) 1 = .ok (.getfield 14, 3) := dt_Monitor_takeWriteBeat_c0 1
theorem d_Monitor_takeWriteBeat_4 : decode (jm_cod M_Monitor_takeWriteBeat) 4 = .ok (.aload_n 0, 1) := dt_Monitor_takeWriteBeat_c0 2
theorem d_Monitor_takeWriteBeat_5 : decode (jm_cod M_Monitor_takeWriteBeat) 5 = .ok (.getfield 14, 3) := dt_Monitor_takeWriteBeat_c0 3
theorem d_Monitor_takeWriteBeat_8 : decode (jm_cod M_Monitor_takeWriteBeat) 8 = .ok (.invokevirtual 165, 3) := dt_Monitor_takeWriteBeat_c0 4
theorem d_Monitor_takeWriteBeat_11 : decode (jm_cod M_Monitor_takeWriteBeat) 11 = .ok (.invokevirtual 116, 3) := dt_Monitor_takeWriteBeat_c0 5
theorem d_Monitor_takeWriteBeat_14 : decode (jm_cod M_Monitor_takeWriteBeat) 14 = .ok (.astore_n 2, 1) := dt_Monitor_takeWriteBeat_c0 6
theorem d_Monitor_takeWriteBeat_15 : decode (jm_cod M_Monitor_takeWriteBeat) 15 = .ok (.aload_n 2, 1) := dt_Monitor_takeWriteBeat_c0 7
theorem d_Monitor_takeWriteBeat_16 : decode (jm_cod M_Monitor_takeWriteBeat) 16 = .ok (.ifnonnull 12, 3) := dt_Monitor_takeWriteBeat_c0 8
theorem d_Monitor_takeWriteBeat_19 : decode (jm_cod M_Monitor_takeWriteBeat) 19 = .ok (.aload_n 0, 1) := dt_Monitor_takeWriteBeat_c0 9
theorem d_Monitor_takeWriteBeat_20 : decode (jm_cod M_Monitor_takeWriteBeat) 20 = .ok (.getfield 14, 3) := dt_Monitor_takeWriteBeat_c0 10
theorem d_Monitor_takeWriteBeat_23 : decode (jm_cod M_Monitor_takeWriteBeat) 23 = .ok (.lconst 0, 1) := dt_Monitor_takeWriteBeat_c0 11
theorem d_Monitor_takeWriteBeat_24 : decode (jm_cod M_Monitor_takeWriteBeat) 24 = .ok (.invokevirtual 72, 3) := dt_Monitor_takeWriteBeat_c0 12
theorem d_Monitor_takeWriteBeat_27 : decode (jm_cod M_Monitor_takeWriteBeat) 27 = .ok (.astore_n 2, 1) := dt_Monitor_takeWriteBeat_c0 13
theorem d_Monitor_takeWriteBeat_28 : decode (jm_cod M_Monitor_takeWriteBeat) 28 = .ok (.aload_n 2, 1) := dt_Monitor_takeWriteBeat_c0 14
theorem d_Monitor_takeWriteBeat_29 : decode (jm_cod M_Monitor_takeWriteBeat) 29 = .ok (.ifnonnull 6, 3) := dt_Monitor_takeWriteBeat_c0 15
theorem d_Monitor_takeWriteBeat_32 : decode (jm_cod M_Monitor_takeWriteBeat) 32 = .ok (.bipush 12, 2) := dt_Monitor_takeWriteBeat_c0 16
theorem d_Monitor_takeWriteBeat_34 : decode (jm_cod M_Monitor_takeWriteBeat) 34 = .ok (.ireturn, 1) := dt_Monitor_takeWriteBeat_c0 17
theorem d_Monitor_takeWriteBeat_35 : decode (jm_cod M_Monitor_takeWriteBeat) 35 = .ok (.aload_n 2, 1) := dt_Monitor_takeWriteBeat_c0 18
theorem d_Monitor_takeWriteBeat_36 : decode (jm_cod M_Monitor_takeWriteBeat) 36 = .ok (.getfield 127, 3) := dt_Monitor_takeWriteBeat_c0 19
theorem d_Monitor_takeWriteBeat_39 : decode (jm_cod M_Monitor_takeWriteBeat) 39 = .ok (.bipush 16, 2) := dt_Monitor_takeWriteBeat_c0 20
theorem d_Monitor_takeWriteBeat_41 : decode (jm_cod M_Monitor_takeWriteBeat) 41 = .ok (.if_icmp .lt 6, 3) := dt_Monitor_takeWriteBeat_c0 21
theorem d_Monitor_takeWriteBeat_44 : decode (jm_cod M_Monitor_takeWriteBeat) 44 = .ok (.bipush 7, 2) := dt_Monitor_takeWriteBeat_c0 22
theorem d_Monitor_takeWriteBeat_46 : decode (jm_cod M_Monitor_takeWriteBeat) 46 = .ok (.ireturn, 1) := dt_Monitor_takeWriteBeat_c0 23
def tab_Monitor_takeWriteBeat_c1 : List (Nat × Instr × Nat) := [(47, .aload_n 2, 1), (48, .lconst 0, 1), (49, .iload_n 1, 1), (50, .invokevirtual 168, 3), (53, .aload_n 2, 1), (54, .iload_n 1, 1), (55, .invokestatic 137, 3), (58, .putfield 172, 3), (61, .aload_n 2, 1), (62, .getfield 157, 3), (65, .ifCond .eq 16, 3), (68, .aload_n 2, 1), (69, .aload_n 2, 1), (70, .getfield 127, 3), (73, .iconst 1, 1), (74, .isub, 1), (75, .invokestatic 161, 3), (78, .goto 4, 3), (81, .iconst 0, 1), (82, .ireturn, 1)]
theorem dt_Monitor_takeWriteBeat_c1 (i : Nat) : decode (jm_cod M_Monitor_takeWriteBeat) (tab_Monitor_takeWriteBeat_c1.getD i (47, .aload_n 2, 1)).1 = .ok ((tab_Monitor_takeWriteBeat_c1.getD i (47, .aload_n 2, 1)).2.1, (tab_Monitor_takeWriteBeat_c1.getD i (47, .aload_n 2, 1)).2.2) := j_tab (by decide +kernel) i
theorem d_Monitor_takeWriteBeat_47 : decode (jm_cod M_Monitor_takeWriteBeat) 47 = .ok (.aload_n 2, 1) := dt_Monitor_takeWriteBeat_c1 0
theorem d_Monitor_takeWriteBeat_48 : decode (jm_cod M_Monitor_takeWriteBeat) 48 = .ok (.lconst 0, 1) := dt_Monitor_takeWriteBeat_c1 1
theorem d_Monitor_takeWriteBeat_49 : decode (jm_cod M_Monitor_takeWriteBeat) 49 = .ok (.iload_n 1, 1) := dt_Monitor_takeWriteBeat_c1 2
theorem d_Monitor_takeWriteBeat_50 : decode (jm_cod M_Monitor_takeWriteBeat) 50 = .ok (.invokevirtual 168, 3) := dt_Monitor_takeWriteBeat_c1 3
theorem d_Monitor_takeWriteBeat_53 : decode (jm_cod M_Monitor_takeWriteBeat) 53 = .ok (.aload_n 2, 1) := dt_Monitor_takeWriteBeat_c1 4
theorem d_Monitor_takeWriteBeat_54 : decode (jm_cod M_Monitor_takeWriteBeat) 54 = .ok (.iload_n 1, 1) := dt_Monitor_takeWriteBeat_c1 5
theorem d_Monitor_takeWriteBeat_55 : decode (jm_cod M_Monitor_takeWriteBeat) 55 = .ok (.invokestatic 137, 3) := dt_Monitor_takeWriteBeat_c1 6
theorem d_Monitor_takeWriteBeat_58 : decode (jm_cod M_Monitor_takeWriteBeat) 58 = .ok (.putfield 172, 3) := dt_Monitor_takeWriteBeat_c1 7
theorem d_Monitor_takeWriteBeat_61 : decode (jm_cod M_Monitor_takeWriteBeat) 61 = .ok (.aload_n 2, 1) := dt_Monitor_takeWriteBeat_c1 8
theorem d_Monitor_takeWriteBeat_62 : decode (jm_cod M_Monitor_takeWriteBeat) 62 = .ok (.getfield 157, 3) := dt_Monitor_takeWriteBeat_c1 9
theorem d_Monitor_takeWriteBeat_65 : decode (jm_cod M_Monitor_takeWriteBeat) 65 = .ok (.ifCond .eq 16, 3) := dt_Monitor_takeWriteBeat_c1 10
theorem d_Monitor_takeWriteBeat_68 : decode (jm_cod M_Monitor_takeWriteBeat) 68 = .ok (.aload_n 2, 1) := dt_Monitor_takeWriteBeat_c1 11
theorem d_Monitor_takeWriteBeat_69 : decode (jm_cod M_Monitor_takeWriteBeat) 69 = .ok (.aload_n 2, 1) := dt_Monitor_takeWriteBeat_c1 12
theorem d_Monitor_takeWriteBeat_70 : decode (jm_cod M_Monitor_takeWriteBeat) 70 = .ok (.getfield 127, 3) := dt_Monitor_takeWriteBeat_c1 13
theorem d_Monitor_takeWriteBeat_73 : decode (jm_cod M_Monitor_takeWriteBeat) 73 = .ok (.iconst 1, 1) := dt_Monitor_takeWriteBeat_c1 14
theorem d_Monitor_takeWriteBeat_74 : decode (jm_cod M_Monitor_takeWriteBeat) 74 = .ok (.isub, 1) := dt_Monitor_takeWriteBeat_c1 15
theorem d_Monitor_takeWriteBeat_75 : decode (jm_cod M_Monitor_takeWriteBeat) 75 = .ok (.invokestatic 161, 3) := dt_Monitor_takeWriteBeat_c1 16
theorem d_Monitor_takeWriteBeat_78 : decode (jm_cod M_Monitor_takeWriteBeat) 78 = .ok (.goto 4, 3) := dt_Monitor_takeWriteBeat_c1 17
theorem d_Monitor_takeWriteBeat_81 : decode (jm_cod M_Monitor_takeWriteBeat) 81 = .ok (.iconst 0, 1) := dt_Monitor_takeWriteBeat_c1 18
theorem d_Monitor_takeWriteBeat_82 : decode (jm_cod M_Monitor_takeWriteBeat) 82 = .ok (.ireturn, 1) := dt_Monitor_takeWriteBeat_c1 19
def tab_Monitor_remember_c0 : List (Nat × Instr × Nat) := [(0, .iconst 0, 1), (1, .istore_n 2, 1), (2, .iload_n 2, 1), (3, .iconst 5, 1), (4, .if_icmp .ge 62, 3), (7, .aload_n 0, 1), (8, .getfield 23, 3), (11, .iload_n 2, 1), (12, .aload_n 1, 1), (13, .getfield 90, 3), (16, .iload_n 2, 1), (17, .baload, 1), (18, .ifCond .eq 16, 3), (21, .aload_n 1, 1), (22, .getfield 93, 3), (25, .iload_n 2, 1), (26, .baload, 1), (27, .ifCond .ne 7, 3), (30, .iconst 1, 1), (31, .goto 4, 3), (34, .iconst 0, 1), (35, .bastore, 1), (36, .aload_n 0, 1), (37, .getfield 27, 3)]
theorem dt_Monitor_remember_c0 (i : Nat) : decode (jm_cod M_Monitor_remember) (tab_Monitor_remember_c0.getD i (0, .iconst 0, 1)).1 = .ok ((tab_Monitor_remember_c0.getD i (0, .iconst 0, 1)).2.1, (tab_Monitor_remember_c0.getD i (0, .iconst 0, 1)).2.2) := j_tab (by decide +kernel) i
theorem d_Monitor_remember_0 : decode (jm_cod M_Monitor_remember) 0 = .ok (.iconst 0, 1) := dt_Monitor_remember_c0 0
theorem d_Monitor_remember_1 : decode (jm_cod M_Monitor_remember) 1 = .ok (.istore_n 2, 1) := dt_Monitor_remember_c0 1
theorem d_Monitor_remember_2 : decode (jm_cod M_Monitor_remember) 2 = .ok (.iload_n 2, 1) := dt_Monitor_remember_c0 2
theorem d_Monitor_remember_3 : decode (jm_cod M_Monitor_remember) 3 = .ok (.iconst 5, 1) := dt_Monitor_remember_c0 3
theorem d_Monitor_remember_4 : decode (jm_cod M_Monitor_remember) 4 = .ok (.if_icmp .ge 62, 3) := dt_Monitor_remember_c0 4
theorem d_Monitor_remember_7 : decode (jm_cod M_Monitor_remember) 7 = .ok (.aload_n 0, 1) := dt_Monitor_remember_c0 5
theorem d_Monitor_remember_8 : decode (jm_cod M_Monitor_remember) 8 = .ok (.getfield 23, 3) := dt_Monitor_remember_c0 6
theorem d_Monitor_remember_11 : decode (jm_cod M_Monitor_remember) 11 = .ok (.iload_n 2, 1) := dt_Monitor_remember_c0 7
theorem d_Monitor_remember_12 : decode (jm_cod M_Monitor_remember) 12 = .ok (.aload_n 1, 1) := dt_Monitor_remember_c0 8
theorem d_Monitor_remember_13 : decode (jm_cod M_Monitor_remember) 13 = .ok (.getfield 90, 3) := dt_Monitor_remember_c0 9
theorem d_Monitor_remember_16 : decode (jm_cod M_Monitor_remember) 16 = .ok (.iload_n 2, 1) := dt_Monitor_remember_c0 10
theorem d_Monitor_remember_17 : decode (jm_cod M_Monitor_remember) 17 = .ok (.baload, 1) := dt_Monitor_remember_c0 11
theorem d_Monitor_remember_18 : decode (jm_cod M_Monitor_remember) 18 = .ok (.ifCond .eq 16, 3) := dt_Monitor_remember_c0 12
theorem d_Monitor_remember_21 : decode (jm_cod M_Monitor_remember) 21 = .ok (.aload_n 1, 1) := dt_Monitor_remember_c0 13
theorem d_Monitor_remember_22 : decode (jm_cod M_Monitor_remember) 22 = .ok (.getfield 93, 3) := dt_Monitor_remember_c0 14
theorem d_Monitor_remember_25 : decode (jm_cod M_Monitor_remember) 25 = .ok (.iload_n 2, 1) := dt_Monitor_remember_c0 15
theorem d_Monitor_remember_26 : decode (jm_cod M_Monitor_remember) 26 = .ok (.baload, 1) := dt_Monitor_remember_c0 16
theorem d_Monitor_remember_27 : decode (jm_cod M_Monitor_remember) 27 = .ok (.ifCond .ne 7, 3) := dt_Monitor_remember_c0 17
theorem d_Monitor_remember_30 : decode (jm_cod M_Monitor_remember) 30 = .ok (.iconst 1, 1) := dt_Monitor_remember_c0 18
theorem d_Monitor_remember_31 : decode (jm_cod M_Monitor_remember) 31 = .ok (.goto 4, 3) := dt_Monitor_remember_c0 19
theorem d_Monitor_remember_34 : decode (jm_cod M_Monitor_remember) 34 = .ok (.iconst 0, 1) := dt_Monitor_remember_c0 20
theorem d_Monitor_remember_35 : decode (jm_cod M_Monitor_remember) 35 = .ok (.bastore, 1) := dt_Monitor_remember_c0 21
theorem d_Monitor_remember_36 : decode (jm_cod M_Monitor_remember) 36 = .ok (.aload_n 0, 1) := dt_Monitor_remember_c0 22
theorem d_Monitor_remember_37 : decode (jm_cod M_Monitor_remember) 37 = .ok (.getfield 27, 3) := dt_Monitor_remember_c0 23
def tab_Monitor_remember_c1 : List (Nat × Instr × Nat) := [(40, .iload_n 2, 1), (41, .aload_n 1, 1), (42, .getfield 69, 3), (45, .iload_n 2, 1), (46, .laload, 1), (47, .lastore, 1), (48, .aload_n 0, 1), (49, .getfield 31, 3), (52, .iload_n 2, 1), (53, .aload_n 1, 1), (54, .getfield 80, 3), (57, .iload_n 2, 1), (58, .iaload, 1), (59, .iastore, 1), (60, .iinc 2 1, 3), (63, .goto (-61), 3), (66, .return_, 1)]
theorem dt_Monitor_remember_c1 (i : Nat) : decode (jm_cod M_Monitor_remember) (tab_Monitor_remember_c1.getD i (40, .iload_n 2, 1)).1 = .ok ((tab_Monitor_remember_c1.getD i (40, .iload_n 2, 1)).2.1, (tab_Monitor_remember_c1.getD i (40, .iload_n 2, 1)).2.2) := j_tab (by decide +kernel) i
theorem d_Monitor_remember_40 : decode (jm_cod M_Monitor_remember) 40 = .ok (.iload_n 2, 1) := dt_Monitor_remember_c1 0
theorem d_Monitor_remember_41 : decode (jm_cod M_Monitor_remember) 41 = .ok (.aload_n 1, 1) := dt_Monitor_remember_c1 1
theorem d_Monitor_remember_42 : decode (jm_cod M_Monitor_remember) 42 = .ok (.getfield 69, 3) := dt_Monitor_remember_c1 2
theorem d_Monitor_remember_45 : decode (jm_cod M_Monitor_remember) 45 = .ok (.iload_n 2, 1) := dt_Monitor_remember_c1 3
theorem d_Monitor_remember_46 : decode (jm_cod M_Monitor_remember) 46 = .ok (.laload, 1) := dt_Monitor_remember_c1 4
theorem d_Monitor_remember_47 : decode (jm_cod M_Monitor_remember) 47 = .ok (.lastore, 1) := dt_Monitor_remember_c1 5
theorem d_Monitor_remember_48 : decode (jm_cod M_Monitor_remember) 48 = .ok (.aload_n 0, 1) := dt_Monitor_remember_c1 6
theorem d_Monitor_remember_49 : decode (jm_cod M_Monitor_remember) 49 = .ok (.getfield 31, 3) := dt_Monitor_remember_c1 7
theorem d_Monitor_remember_52 : decode (jm_cod M_Monitor_remember) 52 = .ok (.iload_n 2, 1) := dt_Monitor_remember_c1 8
theorem d_Monitor_remember_53 : decode (jm_cod M_Monitor_remember) 53 = .ok (.aload_n 1, 1) := dt_Monitor_remember_c1 9
theorem d_Monitor_remember_54 : decode (jm_cod M_Monitor_remember) 54 = .ok (.getfield 80, 3) := dt_Monitor_remember_c1 10
theorem d_Monitor_remember_57 : decode (jm_cod M_Monitor_remember) 57 = .ok (.iload_n 2, 1) := dt_Monitor_remember_c1 11
theorem d_Monitor_remember_58 : decode (jm_cod M_Monitor_remember) 58 = .ok (.iaload, 1) := dt_Monitor_remember_c1 12
theorem d_Monitor_remember_59 : decode (jm_cod M_Monitor_remember) 59 = .ok (.iastore, 1) := dt_Monitor_remember_c1 13
theorem d_Monitor_remember_60 : decode (jm_cod M_Monitor_remember) 60 = .ok (.iinc 2 1, 3) := dt_Monitor_remember_c1 14
theorem d_Monitor_remember_63 : decode (jm_cod M_Monitor_remember) 63 = .ok (.goto (-61), 3) := dt_Monitor_remember_c1 15
theorem d_Monitor_remember_66 : decode (jm_cod M_Monitor_remember) 66 = .ok (.return_, 1) := dt_Monitor_remember_c1 16
def tab_Monitor_faultPart_c0 : List (Nat × Instr × Nat) := [(0, .iload_n 1, 1), (1, .ifCond .ne 8, 3), (4, .aload_n 0, 1), (5, .getfield 45, 3), (8, .ireturn, 1), (9, .iload_n 1, 1), (10, .iconst 1, 1), (11, .if_icmp .ne 10, 3), (14, .aload_n 0, 1), (15, .getfield 35, 3), (18, .goto 7, 3), (21, .aload_n 0, 1), (22, .getfield 39, 3), (25, .ireturn, 1)]
theorem dt_Monitor_faultPart_c0 (i : Nat) : decode (jm_cod M_Monitor_faultPart) (tab_Monitor_faultPart_c0.getD i (0, .iload_n 1, 1)).1 = .ok ((tab_Monitor_faultPart_c0.getD i (0, .iload_n 1, 1)).2.1, (tab_Monitor_faultPart_c0.getD i (0, .iload_n 1, 1)).2.2) := j_tab (by decide +kernel) i
theorem d_Monitor_faultPart_0 : decode (jm_cod M_Monitor_faultPart) 0 = .ok (.iload_n 1, 1) := dt_Monitor_faultPart_c0 0
theorem d_Monitor_faultPart_1 : decode (jm_cod M_Monitor_faultPart) 1 = .ok (.ifCond .ne 8, 3) := dt_Monitor_faultPart_c0 1
theorem d_Monitor_faultPart_4 : decode (jm_cod M_Monitor_faultPart) 4 = .ok (.aload_n 0, 1) := dt_Monitor_faultPart_c0 2
theorem d_Monitor_faultPart_5 : decode (jm_cod M_Monitor_faultPart) 5 = .ok (.getfield 45, 3) := dt_Monitor_faultPart_c0 3
theorem d_Monitor_faultPart_8 : decode (jm_cod M_Monitor_faultPart) 8 = .ok (.ireturn, 1) := dt_Monitor_faultPart_c0 4
theorem d_Monitor_faultPart_9 : decode (jm_cod M_Monitor_faultPart) 9 = .ok (.iload_n 1, 1) := dt_Monitor_faultPart_c0 5
theorem d_Monitor_faultPart_10 : decode (jm_cod M_Monitor_faultPart) 10 = .ok (.iconst 1, 1) := dt_Monitor_faultPart_c0 6
theorem d_Monitor_faultPart_11 : decode (jm_cod M_Monitor_faultPart) 11 = .ok (.if_icmp .ne 10, 3) := dt_Monitor_faultPart_c0 7
theorem d_Monitor_faultPart_14 : decode (jm_cod M_Monitor_faultPart) 14 = .ok (.aload_n 0, 1) := dt_Monitor_faultPart_c0 8
theorem d_Monitor_faultPart_15 : decode (jm_cod M_Monitor_faultPart) 15 = .ok (.getfield 35, 3) := dt_Monitor_faultPart_c0 9
theorem d_Monitor_faultPart_18 : decode (jm_cod M_Monitor_faultPart) 18 = .ok (.goto 7, 3) := dt_Monitor_faultPart_c0 10
theorem d_Monitor_faultPart_21 : decode (jm_cod M_Monitor_faultPart) 21 = .ok (.aload_n 0, 1) := dt_Monitor_faultPart_c0 11
theorem d_Monitor_faultPart_22 : decode (jm_cod M_Monitor_faultPart) 22 = .ok (.getfield 39, 3) := dt_Monitor_faultPart_c0 12
theorem d_Monitor_faultPart_25 : decode (jm_cod M_Monitor_faultPart) 25 = .ok (.ireturn, 1) := dt_Monitor_faultPart_c0 13
