def tab_Slave_init_c0 : List (Nat × Instr × Nat) := [(0, .aload_n 0, 1), (1, .invokespecial 3, 3), (4, .aload_n 0, 1), (5, .iconst 5, 1), (6, .newarray .int, 2), (8, .putfield 9, 3), (11, .aload_n 0, 1), (12, .new 15, 3), (15, .dup, 1), (16, .iconst 4, 1), (17, .invokespecial 17, 3), (20, .putfield 20, 3), (23, .aload_n 0, 1), (24, .new 15, 3), (27, .dup, 1), (28, .iconst 4, 1), (29, .invokespecial 17, 3), (32, .putfield 24, 3), (35, .aload_n 0, 1), (36, .bipush 64, 2), (38, .newarray .int, 2), (40, .putfield 27, 3), (43, .aload_n 0, 1), (44, .bipush 64, 2)]
theorem dt_Slave_init_c0 (i : Nat) : decode (jm_cod M_Slave_init) (tab_Slave_init_c0.getD i (0, .aload_n 0, 1)).1 = .ok ((tab_Slave_init_c0.getD i (0, .aload_n 0, 1)).2.1, (tab_Slave_init_c0.getD i (0, .aload_n 0, 1)).2.2) := j_tab (by decide +kernel) i
theorem d_Slave_init_0 : decode (jm_cod M_Slave_init) 0 = .ok (.aload_n 0, 1) := dt_Slave_init_c0 0
theorem d_Slave_init_1 : decode (jm_cod M_Slave_init) 1 = .ok (.invokespecial 3, 3) := dt_Slave_init_c0 1
theorem d_Slave_init_4 : decode (jm_cod M_Slave_init) 4 = .ok (.aload_n 0, 1) := dt_Slave_init_c0 2
theorem d_Slave_init_5 : decode (jm_cod M_Slave_init) 5 = .ok (.iconst 5, 1) := dt_Slave_init_c0 3
theorem d_Slave_init_6 : decode (jm_cod M_Slave_init) 6 = .ok (.newarray .int, 2) := dt_Slave_init_c0 4
theorem d_Slave_init_8 : decode (jm_cod M_Slave_init) 8 = .ok (.putfield 9, 3) := dt_Slave_init_c0 5
theorem d_Slave_init_11 : decode (jm_cod M_Slave_init) 11 = .ok (.aload_n 0, 1) := dt_Slave_init_c0 6
theorem d_Slave_init_12 : decode (jm_cod M_Slave_init) 12 = .ok (.new 15, 3) := dt_Slave_init_c0 7
theorem d_Slave_init_15 : decode (jm_cod M_Slave_init) 15 = .ok (.dup, 1) := dt_Slave_init_c0 8
theorem d_Slave_init_16 : decode (jm_cod M_Slave_init) 16 = .ok (.iconst 4, 1) := dt_Slave_init_c0 9
theorem d_Slave_init_17 : decode (jm_cod M_Slave_init) 17 = .ok (.invokespecial 17, 3) := dt_Slave_init_c0 10
theorem d_Slave_init_20 : decode (jm_cod M_Slave_init) 20 = .ok (.putfield 20, 3) := dt_Slave_init_c0 11
theorem d_Slave_init_23 : decode (jm_cod M_Slave_init) 23 = .ok (.aload_n 0, 1) := dt_Slave_init_c0 12
theorem d_Slave_init_24 : decode (jm_cod M_Slave_init) 24 = .ok (.new 15, 3) := dt_Slave_init_c0 13
theorem d_Slave_init_27 : decode (jm_cod M_Slave_init) 27 = .ok (.dup, 1) := dt_Slave_init_c0 14
theorem d_Slave_init_28 : decode (jm_cod M_Slave_init) 28 = .ok (.iconst 4, 1) := dt_Slave_init_c0 15
theorem d_Slave_init_29 : decode (jm_cod M_Slave_init) 29 = .ok (.invokespecial 17, 3) := dt_Slave_init_c0 16
theorem d_Slave_init_32 : decode (jm_cod M_Slave_init) 32 = .ok (.putfield 24, 3) := dt_Slave_init_c0 17
theorem d_Slave_init_35 : decode (jm_cod M_Slave_init) 35 = .ok (.aload_n 0, 1) := dt_Slave_init_c0 18
theorem d_Slave_init_36 : decode (jm_cod M_Slave_init) 36 = .ok (.bipush 64, 2) := dt_Slave_init_c0 19
theorem d_Slave_init_38 : decode (jm_cod M_Slave_init) 38 = .ok (.newarray .int, 2) := dt_Slave_init_c0 20
theorem d_Slave_init_40 : decode (jm_cod M_Slave_init) 40 = .ok (.putfield 27, 3) := dt_Slave_init_c0 21
theorem d_Slave_init_43 : decode (jm_cod M_Slave_init) 43 = .ok (.aload_n 0, 1) := dt_Slave_init_c0 22
theorem d_Slave_init_44 : decode (jm_cod M_Slave_init) 44 = .ok (.bipush 64, 2) := dt_Slave_init_c0 23
def tab_Slave_init_c1 : List (Nat × Instr × Nat) := [(46, .newarray .int, 2), (48, .putfield 30, 3), (51, .aload_n 0, 1), (52, .iconst (-1), 1), (53, .putfield 33, 3), (56, .aload_n 0, 1), (57, .iconst (-1), 1), (58, .putfield 37, 3), (61, .aload_n 0, 1), (62, .iconst (-1), 1), (63, .putfield 40, 3), (66, .aload_n 0, 1), (67, .aload_n 1, 1), (68, .putfield 43, 3), (71, .aload_n 0, 1), (72, .getfield 9, 3), (75, .ldc 47, 2), (77, .invokestatic 48, 3), (80, .aload_n 0, 1), (81, .getfield 27, 3), (84, .iconst (-1), 1), (85, .invokestatic 48, 3), (88, .return_, 1)]
theorem dt_Slave_init_c1 (i : Nat) : decode (jm_cod M_Slave_init) (tab_Slave_init_c1.getD i (46, .newarray .int, 2)).1 = .ok ((tab_Slave_init_c1.getD i (46, .newarray .int, 2)).2.1, (tab_Slave_init_c1.getD i (46, .newarray .int, 2)).2.2) := j_tab (by decide +kernel) i
theorem d_Slave_init_46 : decode (jm_cod M_Slave_init) 46 = .ok (.newarray .int, 2) := dt_Slave_init_c1 0
theorem d_Slave_init_48 : decode (jm_cod M_Slave_init) 48 = .ok (.putfield 30, 3) := dt_Slave_init_c1 1
theorem d_Slave_init_51 : decode (jm_cod M_Slave_init) 51 = .ok (.aload_n 0, 1) := dt_Slave_init_c1 2
theorem d_Slave_init_52 : decode (jm_cod M_Slave_init) 52 = .ok (.iconst (-1), 1) := dt_Slave_init_c1 3
theorem d_Slave_init_53 : decode (jm_cod M_Slave_init) 53 = .ok (.putfield 33, 3) := dt_Slave_init_c1 4
theorem d_Slave_init_56 : decode (jm_cod M_Slave_init) 56 = .ok (.aload_n 0, 1) := dt_Slave_init_c1 5
theorem d_Slave_init_57 : decode (jm_cod M_Slave_init) 57 = .ok (.iconst (-1), 1) := dt_Slave_init_c1 6
theorem d_Slave_init_58 : decode (jm_cod M_Slave_init) 58 = .ok (.putfield 37, 3) := dt_Slave_init_c1 7
theorem d_Slave_init_61 : decode (jm_cod M_Slave_init) 61 = .ok (.aload_n 0, 1) := dt_Slave_init_c1 8
theorem d_Slave_init_62 : decode (jm_cod M_Slave_init) 62 = .ok (.iconst (-1), 1) := dt_Slave_init_c1 9
theorem d_Slave_init_63 : decode (jm_cod M_Slave_init) 63 = .ok (.putfield 40, 3) := dt_Slave_init_c1 10
theorem d_Slave_init_66 : decode (jm_cod M_Slave_init) 66 = .ok (.aload_n 0, 1) := dt_Slave_init_c1 11
theorem d_Slave_init_67 : decode (jm_cod M_Slave_init) 67 = .ok (.aload_n 1, 1) := dt_Slave_init_c1 12
theorem d_Slave_init_68 : decode (jm_cod M_Slave_init) 68 = .ok (.putfield 43, 3) := dt_Slave_init_c1 13
theorem d_Slave_init_71 : decode (jm_cod M_Slave_init) 71 = .ok (.aload_n 0, 1) := dt_Slave_init_c1 14
theorem d_Slave_init_72 : decode (jm_cod M_Slave_init) 72 = .ok (.getfield 9, 3) := dt_Slave_init_c1 15
theorem d_Slave_init_75 : decode (jm_cod M_Slave_init) 75 = .ok (.ldc 47, 2) := dt_Slave_init_c1 16
theorem d_Slave_init_77 : decode (jm_cod M_Slave_init) 77 = .ok (.invokestatic 48, 3) := dt_Slave_init_c1 17
theorem d_Slave_init_80 : decode (jm_cod M_Slave_init) 80 = .ok (.aload_n 0, 1) := dt_Slave_init_c1 18
theorem d_Slave_init_81 : decode (jm_cod M_Slave_init) 81 = .ok (.getfield 27, 3) := dt_Slave_init_c1 19
theorem d_Slave_init_84 : decode (jm_cod M_Slave_init) 84 = .ok (.iconst (-1), 1) := dt_Slave_init_c1 20
theorem d_Slave_init_85 : decode (jm_cod M_Slave_init) 85 = .ok (.invokestatic 48, 3) := dt_Slave_init_c1 21
theorem d_Slave_init_88 : decode (jm_cod M_Slave_init) 88 = .ok (.return_, 1) := dt_Slave_init_c1 22
def tab_Slave_reset_c0 : List (Nat × Instr × Nat) := [(0, .aload_n 0, 1), (1, .getfield 9, 3), (4, .ldc 47, 2), (6, .invokestatic 48, 3), (9, .aload_n 0, 1), (10, .getfield 27, 3), (13, .iconst (-1), 1), (14, .invokestatic 48, 3), (17, .aload_n 0, 1), (18, .getfield 20, 3), (21, .iconst 0, 1), (22, .putfield 54, 3), (25, .aload_n 0, 1), (26, .getfield 24, 3), (29, .iconst 0, 1), (30, .putfield 54, 3), (33, .aload_n 0, 1), (34, .iconst 0, 1), (35, .putfield 57, 3), (38, .aload_n 0, 1), (39, .iconst 0, 1), (40, .putfield 60, 3), (43, .aload_n 0, 1), (44, .iconst (-1), 1)]
theorem dt_Slave_reset_c0 (i : Nat) : decode (jm_cod M_Slave_reset) (tab_Slave_reset_c0.getD i (0, .aload_n 0, 1)).1 = .ok ((tab_Slave_reset_c0.getD i (0, .aload_n 0, 1)).2.1, (tab_Slave_reset_c0.getD i (0, .aload_n 0, 1)).2.2) := j_tab (by decide +kernel) i
theorem d_Slave_reset_0 : decode (jm_cod M_Slave_reset) 0 = .ok (.aload_n 0, 1) := dt_Slave_reset_c0 0
theorem d_Slave_reset_1 : decode (jm_cod M_Slave_reset) 1 = .ok (.getfield 9, 3) := dt_Slave_reset_c0 1
theorem d_Slave_reset_4 : decode (jm_cod M_Slave_reset) 4 = .ok (.ldc 47, 2) := dt_Slave_reset_c0 2
theorem d_Slave_reset_6 : decode (jm_cod M_Slave_reset) 6 = .ok (.invokestatic 48, 3) := dt_Slave_reset_c0 3
theorem d_Slave_reset_9 : decode (jm_cod M_Slave_reset) 9 = .ok (.aload_n 0, 1) := dt_Slave_reset_c0 4
theorem d_Slave_reset_10 : decode (jm_cod M_Slave_reset) 10 = .ok (.getfield 27, 3) := dt_Slave_reset_c0 5
theorem d_Slave_reset_13 : decode (jm_cod M_Slave_reset) 13 = .ok (.iconst (-1), 1) := dt_Slave_reset_c0 6
theorem d_Slave_reset_14 : decode (jm_cod M_Slave_reset) 14 = .ok (.invokestatic 48, 3) := dt_Slave_reset_c0 7
theorem d_Slave_reset_17 : decode (jm_cod M_Slave_reset) 17 = .ok (.aload_n 0, 1) := dt_Slave_reset_c0 8
theorem d_Slave_reset_18 : decode (jm_cod M_Slave_reset) 18 = .ok (.getfield 20, 3) := dt_Slave_reset_c0 9
theorem d_Slave_reset_21 : decode (jm_cod M_Slave_reset) 21 = .ok (.iconst 0, 1) := dt_Slave_reset_c0 10
theorem d_Slave_reset_22 : decode (jm_cod M_Slave_reset) 22 = .ok (.putfield 54, 3) := dt_Slave_reset_c0 11
theorem d_Slave_reset_25 : decode (jm_cod M_Slave_reset) 25 = .ok (.aload_n 0, 1) := dt_Slave_reset_c0 12
theorem d_Slave_reset_26 : decode (jm_cod M_Slave_reset) 26 = .ok (.getfield 24, 3) := dt_Slave_reset_c0 13
theorem d_Slave_reset_29 : decode (jm_cod M_Slave_reset) 29 = .ok (.iconst 0, 1) := dt_Slave_reset_c0 14
theorem d_Slave_reset_30 : decode (jm_cod M_Slave_reset) 30 = .ok (.putfield 54, 3) := dt_Slave_reset_c0 15
theorem d_Slave_reset_33 : decode (jm_cod M_Slave_reset) 33 = .ok (.aload_n 0, 1) := dt_Slave_reset_c0 16
theorem d_Slave_reset_34 : decode (jm_cod M_Slave_reset) 34 = .ok (.iconst 0, 1) := dt_Slave_reset_c0 17
theorem d_Slave_reset_35 : decode (jm_cod M_Slave_reset) 35 = .ok (.putfield 57, 3) := dt_Slave_reset_c0 18
theorem d_Slave_reset_38 : decode (jm_cod M_Slave_reset) 38 = .ok (.aload_n 0, 1) := dt_Slave_reset_c0 19
theorem d_Slave_reset_39 : decode (jm_cod M_Slave_reset) 39 = .ok (.iconst 0, 1) := dt_Slave_reset_c0 20
theorem d_Slave_reset_40 : decode (jm_cod M_Slave_reset) 40 = .ok (.putfield 60, 3) := dt_Slave_reset_c0 21
theorem d_Slave_reset_43 : decode (jm_cod M_Slave_reset) 43 = .ok (.aload_n 0, 1) := dt_Slave_reset_c0 22
theorem d_Slave_reset_44 : decode (jm_cod M_Slave_reset) 44 = .ok (.iconst (-1), 1) := dt_Slave_reset_c0 23
def tab_Slave_reset_c1 : List (Nat × Instr × Nat) := [(45, .putfield 33, 3), (48, .aload_n 0, 1), (49, .iconst (-1), 1), (50, .putfield 37, 3), (53, .aload_n 0, 1), (54, .iconst (-1), 1), (55, .putfield 40, 3), (58, .return_, 1)]
theorem dt_Slave_reset_c1 (i : Nat) : decode (jm_cod M_Slave_reset) (tab_Slave_reset_c1.getD i (45, .putfield 33, 3)).1 = .ok ((tab_Slave_reset_c1.getD i (45, .putfield 33, 3)).2.1, (tab_Slave_reset_c1.getD i (45, .putfield 33, 3)).2.2) := j_tab (by decide +kernel) i
theorem d_Slave_reset_45 : decode (jm_cod M_Slave_reset) 45 = .ok (.putfield 33, 3) := dt_Slave_reset_c1 0
theorem d_Slave_reset_48 : decode (jm_cod M_Slave_reset) 48 = .ok (.aload_n 0, 1) := dt_Slave_reset_c1 1
theorem d_Slave_reset_49 : decode (jm_cod M_Slave_reset) 49 = .ok (.iconst (-1), 1) := dt_Slave_reset_c1 2
theorem d_Slave_reset_50 : decode (jm_cod M_Slave_reset) 50 = .ok (.putfield 37, 3) := dt_Slave_reset_c1 3
theorem d_Slave_reset_53 : decode (jm_cod M_Slave_reset) 53 = .ok (.aload_n 0, 1) := dt_Slave_reset_c1 4
theorem d_Slave_reset_54 : decode (jm_cod M_Slave_reset) 54 = .ok (.iconst (-1), 1) := dt_Slave_reset_c1 5
theorem d_Slave_reset_55 : decode (jm_cod M_Slave_reset) 55 = .ok (.putfield 40, 3) := dt_Slave_reset_c1 6
theorem d_Slave_reset_58 : decode (jm_cod M_Slave_reset) 58 = .ok (.return_, 1) := dt_Slave_reset_c1 7
def tab_Slave_tell_c0 : List (Nat × Instr × Nat) := [(0, .aload_n 1, 1), (1, .getfield 63, 3), (4, .iconst 0, 1), (5, .aload_n 0, 1), (6, .getfield 9, 3), (9, .iconst 0, 1), (10, .iaload, 1), (11, .iload_n 2, 1), (12, .invokestatic 69, 3), (15, .ifCond .eq 17, 3), (18, .aload_n 0, 1), (19, .getfield 20, 3), (22, .invokevirtual 73, 3), (25, .ifCond .eq 7, 3), (28, .iconst 1, 1), (29, .goto 4, 3), (32, .iconst 0, 1), (33, .bastore, 1), (34, .aload_n 1, 1), (35, .getfield 63, 3), (38, .iconst 1, 1), (39, .aload_n 0, 1), (40, .getfield 9, 3), (43, .iconst 1, 1)]
theorem dt_Slave_tell_c0 (i : Nat) : decode (jm_cod M_Slave_tell) (tab_Slave_tell_c0.getD i (0, .aload_n 1, 1)).1 = .ok ((tab_Slave_tell_c0.getD i (0, .aload_n 1, 1)).2.1, (tab_Slave_tell_c0.getD i (0, .aload_n 1, 1)).2.2) := j_tab (by decide +kernel) i
theorem d_Slave_tell_0 : decode (jm_cod M_Slave_tell) 0 = .ok (.aload_n 1, 1) := dt_Slave_tell_c0 0
theorem d_Slave_tell_1 : decode (jm_cod M_Slave_tell) 1 = .ok (.getfield 63, 3) := dt_Slave_tell_c0 1
theorem d_Slave_tell_4 : decode (jm_cod M_Slave_tell) 4 = .ok (.iconst 0, 1) := dt_Slave_tell_c0 2
theorem d_Slave_tell_5 : decode (jm_cod M_Slave_tell) 5 = .ok (.aload_n 0, 1) := dt_Slave_tell_c0 3
theorem d_Slave_tell_6 : decode (jm_cod M_Slave_tell) 6 = .ok (.getfield 9, 3) := dt_Slave_tell_c0 4
theorem d_Slave_tell_9 : decode (jm_cod M_Slave_tell) 9 = .ok (.iconst 0, 1) := dt_Slave_tell_c0 5
theorem d_Slave_tell_10 : decode (jm_cod M_Slave_tell) 10 = .ok (.iaload, 1) := dt_Slave_tell_c0 6
theorem d_Slave_tell_11 : decode (jm_cod M_Slave_tell) 11 = .ok (.iload_n 2, 1) := dt_Slave_tell_c0 7
theorem d_Slave_tell_12 : decode (jm_cod M_Slave_tell) 12 = .ok (.invokestatic 69, 3) := dt_Slave_tell_c0 8
theorem d_Slave_tell_15 : decode (jm_cod M_Slave_tell) 15 = .ok (.ifCond .eq 17, 3) := dt_Slave_tell_c0 9
theorem d_Slave_tell_18 : decode (jm_cod M_Slave_tell) 18 = .ok (.aload_n 0, 1) := dt_Slave_tell_c0 10
theorem d_Slave_tell_19 : decode (jm_cod M_Slave_tell) 19 = .ok (.getfield 20, 3) := dt_Slave_tell_c0 11
theorem d_Slave_tell_22 : decode (jm_cod M_Slave_tell) 22 = .ok (.invokevirtual 73, 3) := dt_Slave_tell_c0 12
theorem d_Slave_tell_25 : decode (jm_cod M_Slave_tell) 25 = .ok (.ifCond .eq 7, 3) := dt_Slave_tell_c0 13
theorem d_Slave_tell_28 : decode (jm_cod M_Slave_tell) 28 = .ok (.iconst 1, 1) := dt_Slave_tell_c0 14
theorem d_Slave_tell_29 : decode (jm_cod M_Slave_tell) 29 = .ok (.goto 4, 3) := dt_Slave_tell_c0 15
theorem d_Slave_tell_32 : decode (jm_cod M_Slave_tell) 32 = .ok (.iconst 0, 1) := dt_Slave_tell_c0 16
theorem d_Slave_tell_33 : decode (jm_cod M_Slave_tell) 33 = .ok (.bastore, 1) := dt_Slave_tell_c0 17
theorem d_Slave_tell_34 : decode (jm_cod M_Slave_tell) 34 = .ok (.aload_n 1, 1) := dt_Slave_tell_c0 18
theorem d_Slave_tell_35 : decode (jm_cod M_Slave_tell) 35 = .ok (.getfield 63, 3) := dt_Slave_tell_c0 19
theorem d_Slave_tell_38 : decode (jm_cod M_Slave_tell) 38 = .ok (.iconst 1, 1) := dt_Slave_tell_c0 20
theorem d_Slave_tell_39 : decode (jm_cod M_Slave_tell) 39 = .ok (.aload_n 0, 1) := dt_Slave_tell_c0 21
theorem d_Slave_tell_40 : decode (jm_cod M_Slave_tell) 40 = .ok (.getfield 9, 3) := dt_Slave_tell_c0 22
theorem d_Slave_tell_43 : decode (jm_cod M_Slave_tell) 43 = .ok (.iconst 1, 1) := dt_Slave_tell_c0 23
def tab_Slave_tell_c1 : List (Nat × Instr × Nat) := [(44, .iaload, 1), (45, .iload_n 2, 1), (46, .invokestatic 69, 3), (49, .ifCond .eq 18, 3), (52, .aload_n 0, 1), (53, .getfield 20, 3), (56, .invokevirtual 77, 3), (59, .iconst (-1), 1), (60, .if_icmp .eq 7, 3), (63, .iconst 1, 1), (64, .goto 4, 3), (67, .iconst 0, 1), (68, .bastore, 1), (69, .aload_n 1, 1), (70, .getfield 63, 3), (73, .iconst 3, 1), (74, .aload_n 0, 1), (75, .getfield 9, 3), (78, .iconst 3, 1), (79, .iaload, 1), (80, .iload_n 2, 1), (81, .invokestatic 69, 3), (84, .ifCond .eq 17, 3), (87, .aload_n 0, 1)]
theorem dt_Slave_tell_c1 (i : Nat) : decode (jm_cod M_Slave_tell) (tab_Slave_tell_c1.getD i (44, .iaload, 1)).1 = .ok ((tab_Slave_tell_c1.getD i (44, .iaload, 1)).2.1, (tab_Slave_tell_c1.getD i (44, .iaload, 1)).2.2) := j_tab (by decide +kernel) i
theorem d_Slave_tell_44 : decode (jm_cod M_Slave_tell) 44 = .ok (.iaload, 1) := dt_Slave_tell_c1 0
theorem d_Slave_tell_45 : decode (jm_cod M_Slave_tell) 45 = .ok (.iload_n 2, 1) := dt_Slave_tell_c1 1
theorem d_Slave_tell_46 : decode (jm_cod M_Slave_tell) 46 = .ok (.invokestatic 69, 3) := dt_Slave_tell_c1 2
theorem d_Slave_tell_49 : decode (jm_cod M_Slave_tell) 49 = .ok (.ifCond .eq 18, 3) := dt_Slave_tell_c1 3
theorem d_Slave_tell_52 : decode (jm_cod M_Slave_tell) 52 = .ok (.aload_n 0, 1) := dt_Slave_tell_c1 4
theorem d_Slave_tell_53 : decode (jm_cod M_Slave_tell) 53 = .ok (.getfield 20, 3) := dt_Slave_tell_c1 5
theorem d_Slave_tell_56 : decode (jm_cod M_Slave_tell) 56 = .ok (.invokevirtual 77, 3) := dt_Slave_tell_c1 6
theorem d_Slave_tell_59 : decode (jm_cod M_Slave_tell) 59 = .ok (.iconst (-1), 1) := dt_Slave_tell_c1 7
theorem d_Slave_tell_60 : decode (jm_cod M_Slave_tell) 60 = .ok (.if_icmp .eq 7, 3) := dt_Slave_tell_c1 8
theorem d_Slave_tell_63 : decode (jm_cod M_Slave_tell) 63 = .ok (.iconst 1, 1) := dt_Slave_tell_c1 9
theorem d_Slave_tell_64 : decode (jm_cod M_Slave_tell) 64 = .ok (.goto 4, 3) := dt_Slave_tell_c1 10
theorem d_Slave_tell_67 : decode (jm_cod M_Slave_tell) 67 = .ok (.iconst 0, 1) := dt_Slave_tell_c1 11
theorem d_Slave_tell_68 : decode (jm_cod M_Slave_tell) 68 = .ok (.bastore, 1) := dt_Slave_tell_c1 12
theorem d_Slave_tell_69 : decode (jm_cod M_Slave_tell) 69 = .ok (.aload_n 1, 1) := dt_Slave_tell_c1 13
theorem d_Slave_tell_70 : decode (jm_cod M_Slave_tell) 70 = .ok (.getfield 63, 3) := dt_Slave_tell_c1 14
theorem d_Slave_tell_73 : decode (jm_cod M_Slave_tell) 73 = .ok (.iconst 3, 1) := dt_Slave_tell_c1 15
theorem d_Slave_tell_74 : decode (jm_cod M_Slave_tell) 74 = .ok (.aload_n 0, 1) := dt_Slave_tell_c1 16
theorem d_Slave_tell_75 : decode (jm_cod M_Slave_tell) 75 = .ok (.getfield 9, 3) := dt_Slave_tell_c1 17
theorem d_Slave_tell_78 : decode (jm_cod M_Slave_tell) 78 = .ok (.iconst 3, 1) := dt_Slave_tell_c1 18
theorem d_Slave_tell_79 : decode (jm_cod M_Slave_tell) 79 = .ok (.iaload, 1) := dt_Slave_tell_c1 19
theorem d_Slave_tell_80 : decode (jm_cod M_Slave_tell) 80 = .ok (.iload_n 2, 1) := dt_Slave_tell_c1 20
theorem d_Slave_tell_81 : decode (jm_cod M_Slave_tell) 81 = .ok (.invokestatic 69, 3) := dt_Slave_tell_c1 21
theorem d_Slave_tell_84 : decode (jm_cod M_Slave_tell) 84 = .ok (.ifCond .eq 17, 3) := dt_Slave_tell_c1 22
theorem d_Slave_tell_87 : decode (jm_cod M_Slave_tell) 87 = .ok (.aload_n 0, 1) := dt_Slave_tell_c1 23
def tab_Slave_tell_c2 : List (Nat × Instr × Nat) := [(88, .getfield 24, 3), (91, .invokevirtual 73, 3), (94, .ifCond .eq 7, 3), (97, .iconst 1, 1), (98, .goto 4, 3), (101, .iconst 0, 1), (102, .bastore, 1), (103, .aload_n 1, 1), (104, .getfield 81, 3), (107, .iconst 2, 1), (108, .baload, 1), (109, .ifCond .ne 49, 3), (112, .aload_n 0, 1), (113, .aload_n 0, 1), (114, .getfield 9, 3), (117, .iconst 2, 1), (118, .iaload, 1), (119, .iload_n 2, 1), (120, .invokestatic 69, 3), (123, .ifCond .eq 16, 3), (126, .aload_n 0, 1), (127, .aload_n 0, 1), (128, .getfield 20, 3), (131, .iconst 0, 1)]
theorem dt_Slave_tell_c2 (i : Nat) : decode (jm_cod M_Slave_tell) (tab_Slave_tell_c2.getD i (88, .getfield 24, 3)).1 = .ok ((tab_Slave_tell_c2.getD i (88, .getfield 24, 3)).2.1, (tab_Slave_tell_c2.getD i (88, .getfield 24, 3)).2.2) := j_tab (by decide +kernel) i
theorem d_Slave_tell_88 : decode (jm_cod M_Slave_tell) 88 = .ok (.getfield 24, 3) := dt_Slave_tell_c2 0
theorem d_Slave_tell_91 : decode (jm_cod M_Slave_tell) 91 = .ok (.invokevirtual 73, 3) := dt_Slave_tell_c2 1
theorem d_Slave_tell_94 : decode (jm_cod M_Slave_tell) 94 = .ok (.ifCond .eq 7, 3) := dt_Slave_tell_c2 2
theorem d_Slave_tell_97 : decode (jm_cod M_Slave_tell) 97 = .ok (.iconst 1, 1) := dt_Slave_tell_c2 3
theorem d_Slave_tell_98 : decode (jm_cod M_Slave_tell) 98 = .ok (.goto 4, 3) := dt_Slave_tell_c2 4
theorem d_Slave_tell_101 : decode (jm_cod M_Slave_tell) 101 = .ok (.iconst 0, 1) := dt_Slave_tell_c2 5
theorem d_Slave_tell_102 : decode (jm_cod M_Slave_tell) 102 = .ok (.bastore, 1) := dt_Slave_tell_c2 6
theorem d_Slave_tell_103 : decode (jm_cod M_Slave_tell) 103 = .ok (.aload_n 1, 1) := dt_Slave_tell_c2 7
theorem d_Slave_tell_104 : decode (jm_cod M_Slave_tell) 104 = .ok (.getfield 81, 3) := dt_Slave_tell_c2 8
theorem d_Slave_tell_107 : decode (jm_cod M_Slave_tell) 107 = .ok (.iconst 2, 1) := dt_Slave_tell_c2 9
theorem d_Slave_tell_108 : decode (jm_cod M_Slave_tell) 108 = .ok (.baload, 1) := dt_Slave_tell_c2 10
theorem d_Slave_tell_109 : decode (jm_cod M_Slave_tell) 109 = .ok (.ifCond .ne 49, 3) := dt_Slave_tell_c2 11
theorem d_Slave_tell_112 : decode (jm_cod M_Slave_tell) 112 = .ok (.aload_n 0, 1) := dt_Slave_tell_c2 12
theorem d_Slave_tell_113 : decode (jm_cod M_Slave_tell) 113 = .ok (.aload_n 0, 1) := dt_Slave_tell_c2 13
theorem d_Slave_tell_114 : decode (jm_cod M_Slave_tell) 114 = .ok (.getfield 9, 3) := dt_Slave_tell_c2 14
theorem d_Slave_tell_117 : decode (jm_cod M_Slave_tell) 117 = .ok (.iconst 2, 1) := dt_Slave_tell_c2 15
theorem d_Slave_tell_118 : decode (jm_cod M_Slave_tell) 118 = .ok (.iaload, 1) := dt_Slave_tell_c2 16
theorem d_Slave_tell_119 : decode (jm_cod M_Slave_tell) 119 = .ok (.iload_n 2, 1) := dt_Slave_tell_c2 17
theorem d_Slave_tell_120 : decode (jm_cod M_Slave_tell) 120 = .ok (.invokestatic 69, 3) := dt_Slave_tell_c2 18
theorem d_Slave_tell_123 : decode (jm_cod M_Slave_tell) 123 = .ok (.ifCond .eq 16, 3) := dt_Slave_tell_c2 19
theorem d_Slave_tell_126 : decode (jm_cod M_Slave_tell) 126 = .ok (.aload_n 0, 1) := dt_Slave_tell_c2 20
theorem d_Slave_tell_127 : decode (jm_cod M_Slave_tell) 127 = .ok (.aload_n 0, 1) := dt_Slave_tell_c2 21
theorem d_Slave_tell_128 : decode (jm_cod M_Slave_tell) 128 = .ok (.getfield 20, 3) := dt_Slave_tell_c2 22
theorem d_Slave_tell_131 : decode (jm_cod M_Slave_tell) 131 = .ok (.iconst 0, 1) := dt_Slave_tell_c2 23
def tab_Slave_tell_c3 : List (Nat × Instr × Nat) := [(132, .iload_n 2, 1), (133, .invokevirtual 84, 3), (136, .goto 4, 3), (139, .iconst (-1), 1), (140, .putfield 33, 3), (143, .aload_n 1, 1), (144, .aload_n 0, 1), (145, .getfield 20, 3), (148, .aload_n 0, 1), (149, .getfield 33, 3), (152, .invokevirtual 88, 3), (155, .invokestatic 92, 3), (158, .aload_n 1, 1), (159, .getfield 81, 3), (162, .iconst 4, 1), (163, .baload, 1), (164, .ifCond .ne 49, 3), (167, .aload_n 0, 1), (168, .aload_n 0, 1), (169, .getfield 9, 3), (172, .iconst 4, 1), (173, .iaload, 1), (174, .iload_n 2, 1), (175, .invokestatic 69, 3)]
theorem dt_Slave_tell_c3 (i : Nat) : decode (jm_cod M_Slave_tell) (tab_Slave_tell_c3.getD i (132, .iload_n 2, 1)).1 = .ok ((tab_Slave_tell_c3.getD i (132, .iload_n 2, 1)).2.1, (tab_Slave_tell_c3.getD i (132, .iload_n 2, 1)).2.2) := j_tab (by decide +kernel) i
theorem d_Slave_tell_132 : decode (jm_cod M_Slave_tell) 132 = .ok (.iload_n 2, 1) := dt_Slave_tell_c3 0
theorem d_Slave_tell_133 : decode (jm_cod M_Slave_tell) 133 = .ok (.invokevirtual 84, 3) := dt_Slave_tell_c3 1
theorem d_Slave_tell_136 : decode (jm_cod M_Slave_tell) 136 = .ok (.goto 4, 3) := dt_Slave_tell_c3 2
theorem d_Slave_tell_139 : decode (jm_cod M_Slave_tell) 139 = .ok (.iconst (-1), 1) := dt_Slave_tell_c3 3
theorem d_Slave_tell_140 : decode (jm_cod M_Slave_tell) 140 = .ok (.putfield 33, 3) := dt_Slave_tell_c3 4
theorem d_Slave_tell_143 : decode (jm_cod M_Slave_tell) 143 = .ok (.aload_n 1, 1) := dt_Slave_tell_c3 5
theorem d_Slave_tell_144 : decode (jm_cod M_Slave_tell) 144 = .ok (.aload_n 0, 1) := dt_Slave_tell_c3 6
theorem d_Slave_tell_145 : decode (jm_cod M_Slave_tell) 145 = .ok (.getfield 20, 3) := dt_Slave_tell_c3 7
theorem d_Slave_tell_148 : decode (jm_cod M_Slave_tell) 148 = .ok (.aload_n 0, 1) := dt_Slave_tell_c3 8
theorem d_Slave_tell_149 : decode (jm_cod M_Slave_tell) 149 = .ok (.getfield 33, 3) := dt_Slave_tell_c3 9
theorem d_Slave_tell_152 : decode (jm_cod M_Slave_tell) 152 = .ok (.invokevirtual 88, 3) := dt_Slave_tell_c3 10
theorem d_Slave_tell_155 : decode (jm_cod M_Slave_tell) 155 = .ok (.invokestatic 92, 3) := dt_Slave_tell_c3 11
theorem d_Slave_tell_158 : decode (jm_cod M_Slave_tell) 158 = .ok (.aload_n 1, 1) := dt_Slave_tell_c3 12
theorem d_Slave_tell_159 : decode (jm_cod M_Slave_tell) 159 = .ok (.getfield 81, 3) := dt_Slave_tell_c3 13
theorem d_Slave_tell_162 : decode (jm_cod M_Slave_tell) 162 = .ok (.iconst 4, 1) := dt_Slave_tell_c3 14
theorem d_Slave_tell_163 : decode (jm_cod M_Slave_tell) 163 = .ok (.baload, 1) := dt_Slave_tell_c3 15
theorem d_Slave_tell_164 : decode (jm_cod M_Slave_tell) 164 = .ok (.ifCond .ne 49, 3) := dt_Slave_tell_c3 16
theorem d_Slave_tell_167 : decode (jm_cod M_Slave_tell) 167 = .ok (.aload_n 0, 1) := dt_Slave_tell_c3 17
theorem d_Slave_tell_168 : decode (jm_cod M_Slave_tell) 168 = .ok (.aload_n 0, 1) := dt_Slave_tell_c3 18
theorem d_Slave_tell_169 : decode (jm_cod M_Slave_tell) 169 = .ok (.getfield 9, 3) := dt_Slave_tell_c3 19
theorem d_Slave_tell_172 : decode (jm_cod M_Slave_tell) 172 = .ok (.iconst 4, 1) := dt_Slave_tell_c3 20
theorem d_Slave_tell_173 : decode (jm_cod M_Slave_tell) 173 = .ok (.iaload, 1) := dt_Slave_tell_c3 21
theorem d_Slave_tell_174 : decode (jm_cod M_Slave_tell) 174 = .ok (.iload_n 2, 1) := dt_Slave_tell_c3 22
theorem d_Slave_tell_175 : decode (jm_cod M_Slave_tell) 175 = .ok (.invokestatic 69, 3) := dt_Slave_tell_c3 23
def tab_Slave_tell_c4 : List (Nat × Instr × Nat) := [(178, .ifCond .eq 16, 3), (181, .aload_n 0, 1), (182, .aload_n 0, 1), (183, .getfield 24, 3), (186, .iconst 1, 1), (187, .iload_n 2, 1), (188, .invokevirtual 84, 3), (191, .goto 4, 3), (194, .iconst (-1), 1), (195, .putfield 37, 3), (198, .aload_n 1, 1), (199, .aload_n 0, 1), (200, .getfield 24, 3), (203, .aload_n 0, 1), (204, .getfield 37, 3), (207, .invokevirtual 88, 3), (210, .invokestatic 96, 3), (213, .return_, 1)]
theorem dt_Slave_tell_c4 (i : Nat) : decode (jm_cod M_Slave_tell) (tab_Slave_tell_c4.getD i (178, .ifCond .eq 16, 3)).1 = .ok ((tab_Slave_tell_c4.getD i (178, .ifCond .eq 16, 3)).2.1, (tab_Slave_tell_c4.getD i (178, .ifCond .eq 16, 3)).2.2) := j_tab (by decide +kernel) i
theorem d_Slave_tell_178 : decode (jm_cod M_Slave_tell) 178 = .ok (.ifCond .eq 16, 3) := dt_Slave_tell_c4 0
theorem d_Slave_tell_181 : decode (jm_cod M_Slave_tell) 181 = .ok (.aload_n 0, 1) := dt_Slave_tell_c4 1
theorem d_Slave_tell_182 : decode (jm_cod M_Slave_tell) 182 = .ok (.aload_n 0, 1) := dt_Slave_tell_c4 2
theorem d_Slave_tell_183 : decode (jm_cod M_Slave_tell) 183 = .ok (.getfield 24, 3) := dt_Slave_tell_c4 3
theorem d_Slave_tell_186 : decode (jm_cod M_Slave_tell) 186 = .ok (.iconst 1, 1) := dt_Slave_tell_c4 4
theorem d_Slave_tell_187 : decode (jm_cod M_Slave_tell) 187 = .ok (.iload_n 2, 1) := dt_Slave_tell_c4 5
theorem d_Slave_tell_188 : decode (jm_cod M_Slave_tell) 188 = .ok (.invokevirtual 84, 3) := dt_Slave_tell_c4 6
theorem d_Slave_tell_191 : decode (jm_cod M_Slave_tell) 191 = .ok (.goto 4, 3) := dt_Slave_tell_c4 7
theorem d_Slave_tell_194 : decode (jm_cod M_Slave_tell) 194 = .ok (.iconst (-1), 1) := dt_Slave_tell_c4 8
theorem d_Slave_tell_195 : decode (jm_cod M_Slave_tell) 195 = .ok (.putfield 37, 3) := dt_Slave_tell_c4 9
theorem d_Slave_tell_198 : decode (jm_cod M_Slave_tell) 198 = .ok (.aload_n 1, 1) := dt_Slave_tell_c4 10
theorem d_Slave_tell_199 : decode (jm_cod M_Slave_tell) 199 = .ok (.aload_n 0, 1) := dt_Slave_tell_c4 11
theorem d_Slave_tell_200 : decode (jm_cod M_Slave_tell) 200 = .ok (.getfield 24, 3) := dt_Slave_tell_c4 12
theorem d_Slave_tell_203 : decode (jm_cod M_Slave_tell) 203 = .ok (.aload_n 0, 1) := dt_Slave_tell_c4 13
theorem d_Slave_tell_204 : decode (jm_cod M_Slave_tell) 204 = .ok (.getfield 37, 3) := dt_Slave_tell_c4 14
theorem d_Slave_tell_207 : decode (jm_cod M_Slave_tell) 207 = .ok (.invokevirtual 88, 3) := dt_Slave_tell_c4 15
theorem d_Slave_tell_210 : decode (jm_cod M_Slave_tell) 210 = .ok (.invokestatic 96, 3) := dt_Slave_tell_c4 16
theorem d_Slave_tell_213 : decode (jm_cod M_Slave_tell) 213 = .ok (.return_, 1) := dt_Slave_tell_c4 17
def tab_Slave_choose_c0 : List (Nat × Instr × Nat) := [(0, .aload_n 0, 1), (1, .getfield 60, 3), (4, .ifCond .ne 22, 3), (7, .aload_n 0, 1), (8, .aload_n 1, 1), (9, .iconst 0, 1), (10, .invokevirtual 88, 3), (13, .iload_n 3, 1), (14, .invokevirtual 130, 3), (17, .ifCond .eq 7, 3), (20, .iconst 0, 1), (21, .goto 4, 3), (24, .iconst (-1), 1), (25, .ireturn, 1), (26, .aload_n 0, 1), (27, .getfield 60, 3), (30, .iconst 2, 1), (31, .if_icmp .ne 15, 3), (34, .iload_n 2, 1), (35, .ifCond .eq 11, 3), (38, .aload_n 0, 1), (39, .iload_n 3, 1), (40, .invokevirtual 134, 3), (43, .goto 10, 3)]
theorem dt_Slave_choose_c0 (i : Nat) : decode (jm_cod M_Slave_choose) (tab_Slave_choose_c0.getD i (0, .aload_n 0, 1)).1 = .ok ((tab_Slave_choose_c0.getD i (0, .aload_n 0, 1)).2.1, (tab_Slave_choose_c0.getD i (0, .aload_n 0, 1)).2.2) := j_tab (by decide +kernel) i
theorem d_Slave_choose_0 : decode (jm_cod M_Slave_choose) 0 = .ok (.aload_n 0, 1) := dt_Slave_choose_c0 0
theorem d_Slave_choose_1 : decode (jm_cod M_Slave_choose) 1 = .ok (.getfield 60, 3) := dt_Slave_choose_c0 1
theorem d_Slave_choose_4 : decode (jm_cod M_Slave_choose) 4 = .ok (.ifCond .ne 22, 3) := dt_Slave_choose_c0 2
theorem d_Slave_choose_7 : decode (jm_cod M_Slave_choose) 7 = .ok (.aload_n 0, 1) := dt_Slave_choose_c0 3
theorem d_Slave_choose_8 : decode (jm_cod M_Slave_choose) 8 = .ok (.aload_n 1, 1) := dt_Slave_choose_c0 4
theorem d_Slave_choose_9 : decode (jm_cod M_Slave_choose) 9 = .ok (.iconst 0, 1) := dt_Slave_choose_c0 5
theorem d_Slave_choose_10 : decode (jm_cod M_Slave_choose) 10 = .ok (.invokevirtual 88, 3) := dt_Slave_choose_c0 6
theorem d_Slave_choose_13 : decode (jm_cod M_Slave_choose) 13 = .ok (.iload_n 3, 1) := dt_Slave_choose_c0 7
theorem d_Slave_choose_14 : decode (jm_cod M_Slave_choose) 14 = .ok (.invokevirtual 130, 3) := dt_Slave_choose_c0 8
theorem d_Slave_choose_17 : decode (jm_cod M_Slave_choose) 17 = .ok (.ifCond .eq 7, 3) := dt_Slave_choose_c0 9
theorem d_Slave_choose_20 : decode (jm_cod M_Slave_choose) 20 = .ok (.iconst 0, 1) := dt_Slave_choose_c0 10
theorem d_Slave_choose_21 : decode (jm_cod M_Slave_choose) 21 = .ok (.goto 4, 3) := dt_Slave_choose_c0 11
theorem d_Slave_choose_24 : decode (jm_cod M_Slave_choose) 24 = .ok (.iconst (-1), 1) := dt_Slave_choose_c0 12
theorem d_Slave_choose_25 : decode (jm_cod M_Slave_choose) 25 = .ok (.ireturn, 1) := dt_Slave_choose_c0 13
theorem d_Slave_choose_26 : decode (jm_cod M_Slave_choose) 26 = .ok (.aload_n 0, 1) := dt_Slave_choose_c0 14
theorem d_Slave_choose_27 : decode (jm_cod M_Slave_choose) 27 = .ok (.getfield 60, 3) := dt_Slave_choose_c0 15
theorem d_Slave_choose_30 : decode (jm_cod M_Slave_choose) 30 = .ok (.iconst 2, 1) := dt_Slave_choose_c0 16
theorem d_Slave_choose_31 : decode (jm_cod M_Slave_choose) 31 = .ok (.if_icmp .ne 15, 3) := dt_Slave_choose_c0 17
theorem d_Slave_choose_34 : decode (jm_cod M_Slave_choose) 34 = .ok (.iload_n 2, 1) := dt_Slave_choose_c0 18
theorem d_Slave_choose_35 : decode (jm_cod M_Slave_choose) 35 = .ok (.ifCond .eq 11, 3) := dt_Slave_choose_c0 19
theorem d_Slave_choose_38 : decode (jm_cod M_Slave_choose) 38 = .ok (.aload_n 0, 1) := dt_Slave_choose_c0 20
theorem d_Slave_choose_39 : decode (jm_cod M_Slave_choose) 39 = .ok (.iload_n 3, 1) := dt_Slave_choose_c0 21
theorem d_Slave_choose_40 : decode (jm_cod M_Slave_choose) 40 = .ok (.invokevirtual 134, 3) := dt_Slave_choose_c0 22
theorem d_Slave_choose_43 : decode (jm_cod M_Slave_choose) 43 = .ok (.goto 10, 3) := dt_Slave_choose_c0 23
def tab_Slave_choose_c1 : List (Nat × Instr × Nat) := [(46, .aload_n 0, 1), (47, .aload_n 1, 1), (48, .iload_n 2, 1), (49, .iload_n 3, 1), (50, .invokevirtual 138, 3), (53, .ireturn, 1)]
theorem dt_Slave_choose_c1 (i : Nat) : decode (jm_cod M_Slave_choose) (tab_Slave_choose_c1.getD i (46, .aload_n 0, 1)).1 = .ok ((tab_Slave_choose_c1.getD i (46, .aload_n 0, 1)).2.1, (tab_Slave_choose_c1.getD i (46, .aload_n 0, 1)).2.2) := j_tab (by decide +kernel) i
theorem d_Slave_choose_46 : decode (jm_cod M_Slave_choose) 46 = .ok (.aload_n 0, 1) := dt_Slave_choose_c1 0
theorem d_Slave_choose_47 : decode (jm_cod M_Slave_choose) 47 = .ok (.aload_n 1, 1) := dt_Slave_choose_c1 1
theorem d_Slave_choose_48 : decode (jm_cod M_Slave_choose) 48 = .ok (.iload_n 2, 1) := dt_Slave_choose_c1 2
theorem d_Slave_choose_49 : decode (jm_cod M_Slave_choose) 49 = .ok (.iload_n 3, 1) := dt_Slave_choose_c1 3
theorem d_Slave_choose_50 : decode (jm_cod M_Slave_choose) 50 = .ok (.invokevirtual 138, 3) := dt_Slave_choose_c1 4
theorem d_Slave_choose_53 : decode (jm_cod M_Slave_choose) 53 = .ok (.ireturn, 1) := dt_Slave_choose_c1 5
def tab_Slave_isRipe_c0 : List (Nat × Instr × Nat) := [(0, .aload_n 1, 1), (1, .ifnull 28, 3), (4, .aload_n 1, 1), (5, .getfield 149, 3), (8, .iconst (-1), 1), (9, .if_icmp .eq 20, 3), (12, .iload_n 2, 1), (13, .aload_n 1, 1), (14, .getfield 149, 3), (17, .aload_n 0, 1), (18, .getfield 57, 3), (21, .iadd, 1), (22, .if_icmp .le 7, 3), (25, .iconst 1, 1), (26, .goto 4, 3), (29, .iconst 0, 1), (30, .ireturn, 1)]
theorem dt_Slave_isRipe_c0 (i : Nat) : decode (jm_cod M_Slave_isRipe) (tab_Slave_isRipe_c0.getD i (0, .aload_n 1, 1)).1 = .ok ((tab_Slave_isRipe_c0.getD i (0, .aload_n 1, 1)).2.1, (tab_Slave_isRipe_c0.getD i (0, .aload_n 1, 1)).2.2) := j_tab (by decide +kernel) i
theorem d_Slave_isRipe_0 : decode (jm_cod M_Slave_isRipe) 0 = .ok (.aload_n 1, 1) := dt_Slave_isRipe_c0 0
theorem d_Slave_isRipe_1 : decode (jm_cod M_Slave_isRipe) 1 = .ok (.ifnull 28, 3) := dt_Slave_isRipe_c0 1
theorem d_Slave_isRipe_4 : decode (jm_cod M_Slave_isRipe) 4 = .ok (.aload_n 1, 1) := dt_Slave_isRipe_c0 2
theorem d_Slave_isRipe_5 : decode (jm_cod M_Slave_isRipe) 5 = .ok (.getfield 149, 3) := dt_Slave_isRipe_c0 3
theorem d_Slave_isRipe_8 : decode (jm_cod M_Slave_isRipe) 8 = .ok (.iconst (-1), 1) := dt_Slave_isRipe_c0 4
theorem d_Slave_isRipe_9 : decode (jm_cod M_Slave_isRipe) 9 = .ok (.if_icmp .eq 20, 3) := dt_Slave_isRipe_c0 5
theorem d_Slave_isRipe_12 : decode (jm_cod M_Slave_isRipe) 12 = .ok (.iload_n 2, 1) := dt_Slave_isRipe_c0 6
theorem d_Slave_isRipe_13 : decode (jm_cod M_Slave_isRipe) 13 = .ok (.aload_n 1, 1) := dt_Slave_isRipe_c0 7
theorem d_Slave_isRipe_14 : decode (jm_cod M_Slave_isRipe) 14 = .ok (.getfield 149, 3) := dt_Slave_isRipe_c0 8
theorem d_Slave_isRipe_17 : decode (jm_cod M_Slave_isRipe) 17 = .ok (.aload_n 0, 1) := dt_Slave_isRipe_c0 9
theorem d_Slave_isRipe_18 : decode (jm_cod M_Slave_isRipe) 18 = .ok (.getfield 57, 3) := dt_Slave_isRipe_c0 10
theorem d_Slave_isRipe_21 : decode (jm_cod M_Slave_isRipe) 21 = .ok (.iadd, 1) := dt_Slave_isRipe_c0 11
theorem d_Slave_isRipe_22 : decode (jm_cod M_Slave_isRipe) 22 = .ok (.if_icmp .le 7, 3) := dt_Slave_isRipe_c0 12
theorem d_Slave_isRipe_25 : decode (jm_cod M_Slave_isRipe) 25 = .ok (.iconst 1, 1) := dt_Slave_isRipe_c0 13
theorem d_Slave_isRipe_26 : decode (jm_cod M_Slave_isRipe) 26 = .ok (.goto 4, 3) := dt_Slave_isRipe_c0 14
theorem d_Slave_isRipe_29 : decode (jm_cod M_Slave_isRipe) 29 = .ok (.iconst 0, 1) := dt_Slave_isRipe_c0 15
theorem d_Slave_isRipe_30 : decode (jm_cod M_Slave_isRipe) 30 = .ok (.ireturn, 1) := dt_Slave_isRipe_c0 16
def tab_Slave_chooseNext_c0 : List (Nat × Instr × Nat) := [(0, .iconst (-1), 1), (1, .istore_n 2, 1), (2, .iconst 0, 1), (3, .istore_n 3, 1), (4, .iload_n 3, 1), (5, .aload_n 0, 1), (6, .getfield 24, 3), (9, .getfield 54, 3), (12, .if_icmp .ge 54, 3), (15, .aload_n 0, 1), (16, .aload_n 0, 1), (17, .getfield 24, 3), (20, .iload_n 3, 1), (21, .iload_n 1, 1), (22, .invokevirtual 141, 3), (25, .ifCond .eq 35, 3), (28, .aload_n 0, 1), (29, .getfield 24, 3), (32, .getfield 145, 3), (35, .iload_n 3, 1), (36, .aaload, 1), (37, .getfield 149, 3), (40, .aload_n 0, 1), (41, .getfield 40, 3)]
theorem dt_Slave_chooseNext_c0 (i : Nat) : decode (jm_cod M_Slave_chooseNext) (tab_Slave_chooseNext_c0.getD i (0, .iconst (-1), 1)).1 = .ok ((tab_Slave_chooseNext_c0.getD i (0, .iconst (-1), 1)).2.1, (tab_Slave_chooseNext_c0.getD i (0, .iconst (-1), 1)).2.2) := j_tab (by decide +kernel) i
theorem d_Slave_chooseNext_0 : decode (jm_cod M_Slave_chooseNext) 0 = .ok (.iconst (-1), 1) := dt_Slave_chooseNext_c0 0
theorem d_Slave_chooseNext_1 : decode (jm_cod M_Slave_chooseNext) 1 = .ok (.istore_n 2, 1) := dt_Slave_chooseNext_c0 1
theorem d_Slave_chooseNext_2 : decode (jm_cod M_Slave_chooseNext) 2 = .ok (.iconst 0, 1) := dt_Slave_chooseNext_c0 2
theorem d_Slave_chooseNext_3 : decode (jm_cod M_Slave_chooseNext) 3 = .ok (.istore_n 3, 1) := dt_Slave_chooseNext_c0 3
theorem d_Slave_chooseNext_4 : decode (jm_cod M_Slave_chooseNext) 4 = .ok (.iload_n 3, 1) := dt_Slave_chooseNext_c0 4
theorem d_Slave_chooseNext_5 : decode (jm_cod M_Slave_chooseNext) 5 = .ok (.aload_n 0, 1) := dt_Slave_chooseNext_c0 5
theorem d_Slave_chooseNext_6 : decode (jm_cod M_Slave_chooseNext) 6 = .ok (.getfield 24, 3) := dt_Slave_chooseNext_c0 6
theorem d_Slave_chooseNext_9 : decode (jm_cod M_Slave_chooseNext) 9 = .ok (.getfield 54, 3) := dt_Slave_chooseNext_c0 7
theorem d_Slave_chooseNext_12 : decode (jm_cod M_Slave_chooseNext) 12 = .ok (.if_icmp .ge 54, 3) := dt_Slave_chooseNext_c0 8
theorem d_Slave_chooseNext_15 : decode (jm_cod M_Slave_chooseNext) 15 = .ok (.aload_n 0, 1) := dt_Slave_chooseNext_c0 9
theorem d_Slave_chooseNext_16 : decode (jm_cod M_Slave_chooseNext) 16 = .ok (.aload_n 0, 1) := dt_Slave_chooseNext_c0 10
theorem d_Slave_chooseNext_17 : decode (jm_cod M_Slave_chooseNext) 17 = .ok (.getfield 24, 3) := dt_Slave_chooseNext_c0 11
theorem d_Slave_chooseNext_20 : decode (jm_cod M_Slave_chooseNext) 20 = .ok (.iload_n 3, 1) := dt_Slave_chooseNext_c0 12
theorem d_Slave_chooseNext_21 : decode (jm_cod M_Slave_chooseNext) 21 = .ok (.iload_n 1, 1) := dt_Slave_chooseNext_c0 13
theorem d_Slave_chooseNext_22 : decode (jm_cod M_Slave_chooseNext) 22 = .ok (.invokevirtual 141, 3) := dt_Slave_chooseNext_c0 14
theorem d_Slave_chooseNext_25 : decode (jm_cod M_Slave_chooseNext) 25 = .ok (.ifCond .eq 35, 3) := dt_Slave_chooseNext_c0 15
theorem d_Slave_chooseNext_28 : decode (jm_cod M_Slave_chooseNext) 28 = .ok (.aload_n 0, 1) := dt_Slave_chooseNext_c0 16
theorem d_Slave_chooseNext_29 : decode (jm_cod M_Slave_chooseNext) 29 = .ok (.getfield 24, 3) := dt_Slave_chooseNext_c0 17
theorem d_Slave_chooseNext_32 : decode (jm_cod M_Slave_chooseNext) 32 = .ok (.getfield 145, 3) := dt_Slave_chooseNext_c0 18
theorem d_Slave_chooseNext_35 : decode (jm_cod M_Slave_chooseNext) 35 = .ok (.iload_n 3, 1) := dt_Slave_chooseNext_c0 19
theorem d_Slave_chooseNext_36 : decode (jm_cod M_Slave_chooseNext) 36 = .ok (.aaload, 1) := dt_Slave_chooseNext_c0 20
theorem d_Slave_chooseNext_37 : decode (jm_cod M_Slave_chooseNext) 37 = .ok (.getfield 149, 3) := dt_Slave_chooseNext_c0 21
theorem d_Slave_chooseNext_40 : decode (jm_cod M_Slave_chooseNext) 40 = .ok (.aload_n 0, 1) := dt_Slave_chooseNext_c0 22
theorem d_Slave_chooseNext_41 : decode (jm_cod M_Slave_chooseNext) 41 = .ok (.getfield 40, 3) := dt_Slave_chooseNext_c0 23
def tab_Slave_chooseNext_c1 : List (Nat × Instr × Nat) := [(44, .if_icmp .le 5, 3), (47, .iload_n 3, 1), (48, .ireturn, 1), (49, .iload_n 2, 1), (50, .iconst (-1), 1), (51, .if_icmp .ne 7, 3), (54, .iload_n 3, 1), (55, .goto 4, 3), (58, .iload_n 2, 1), (59, .istore_n 2, 1), (60, .iinc 3 1, 3), (63, .goto (-59), 3), (66, .iload_n 2, 1), (67, .ireturn, 1)]
theorem dt_Slave_chooseNext_c1 (i : Nat) : decode (jm_cod M_Slave_chooseNext) (tab_Slave_chooseNext_c1.getD i (44, .if_icmp .le 5, 3)).1 = .ok ((tab_Slave_chooseNext_c1.getD i (44, .if_icmp .le 5, 3)).2.1, (tab_Slave_chooseNext_c1.getD i (44, .if_icmp .le 5, 3)).2.2) := j_tab (by decide +kernel) i
theorem d_Slave_chooseNext_44 : decode (jm_cod M_Slave_chooseNext) 44 = .ok (.if_icmp .le 5, 3) := dt_Slave_chooseNext_c1 0
theorem d_Slave_chooseNext_47 : decode (jm_cod M_Slave_chooseNext) 47 = .ok (.iload_n 3, 1) := dt_Slave_chooseNext_c1 1
theorem d_Slave_chooseNext_48 : decode (jm_cod M_Slave_chooseNext) 48 = .ok (.ireturn, 1) := dt_Slave_chooseNext_c1 2
theorem d_Slave_chooseNext_49 : decode (jm_cod M_Slave_chooseNext) 49 = .ok (.iload_n 2, 1) := dt_Slave_chooseNext_c1 3
theorem d_Slave_chooseNext_50 : decode (jm_cod M_Slave_chooseNext) 50 = .ok (.iconst (-1), 1) := dt_Slave_chooseNext_c1 4
theorem d_Slave_chooseNext_51 : decode (jm_cod M_Slave_chooseNext) 51 = .ok (.if_icmp .ne 7, 3) := dt_Slave_chooseNext_c1 5
theorem d_Slave_chooseNext_54 : decode (jm_cod M_Slave_chooseNext) 54 = .ok (.iload_n 3, 1) := dt_Slave_chooseNext_c1 6
theorem d_Slave_chooseNext_55 : decode (jm_cod M_Slave_chooseNext) 55 = .ok (.goto 4, 3) := dt_Slave_chooseNext_c1 7
theorem d_Slave_chooseNext_58 : decode (jm_cod M_Slave_chooseNext) 58 = .ok (.iload_n 2, 1) := dt_Slave_chooseNext_c1 8
theorem d_Slave_chooseNext_59 : decode (jm_cod M_Slave_chooseNext) 59 = .ok (.istore_n 2, 1) := dt_Slave_chooseNext_c1 9
theorem d_Slave_chooseNext_60 : decode (jm_cod M_Slave_chooseNext) 60 = .ok (.iinc 3 1, 3) := dt_Slave_chooseNext_c1 10
theorem d_Slave_chooseNext_63 : decode (jm_cod M_Slave_chooseNext) 63 = .ok (.goto (-59), 3) := dt_Slave_chooseNext_c1 11
theorem d_Slave_chooseNext_66 : decode (jm_cod M_Slave_chooseNext) 66 = .ok (.iload_n 2, 1) := dt_Slave_chooseNext_c1 12
theorem d_Slave_chooseNext_67 : decode (jm_cod M_Slave_chooseNext) 67 = .ok (.ireturn, 1) := dt_Slave_chooseNext_c1 13
def tab_Slave_mayAnswer_c0 : List (Nat × Instr × Nat) := [(0, .aload_n 1, 1), (1, .iload_n 2, 1), (2, .invokevirtual 88, 3), (5, .astore 4, 2), (7, .aload_n 0, 1), (8, .aload 4, 2), (10, .iload_n 3, 1), (11, .invokevirtual 130, 3), (14, .ifCond .eq 23, 3), (17, .aload_n 1, 1), (18, .aload 4, 2), (20, .getfield 99, 3), (23, .invokestatic 105, 3), (26, .invokevirtual 152, 3), (29, .iload_n 2, 1), (30, .if_icmp .ne 7, 3), (33, .iconst 1, 1), (34, .goto 4, 3), (37, .iconst 0, 1), (38, .ireturn, 1)]
theorem dt_Slave_mayAnswer_c0 (i : Nat) : decode (jm_cod M_Slave_mayAnswer) (tab_Slave_mayAnswer_c0.getD i (0, .aload_n 1, 1)).1 = .ok ((tab_Slave_mayAnswer_c0.getD i (0, .aload_n 1, 1)).2.1, (tab_Slave_mayAnswer_c0.getD i (0, .aload_n 1, 1)).2.2) := j_tab (by decide +kernel) i
theorem d_Slave_mayAnswer_0 : decode (jm_cod M_Slave_mayAnswer) 0 = .ok (.aload_n 1, 1) := dt_Slave_mayAnswer_c0 0
theorem d_Slave_mayAnswer_1 : decode (jm_cod M_Slave_mayAnswer) 1 = .ok (.iload_n 2, 1) := dt_Slave_mayAnswer_c0 1
theorem d_Slave_mayAnswer_2 : decode (jm_cod M_Slave_mayAnswer) 2 = .ok (.invokevirtual 88, 3) := dt_Slave_mayAnswer_c0 2
theorem d_Slave_mayAnswer_5 : decode (jm_cod M_Slave_mayAnswer) 5 = .ok (.astore 4, 2) := dt_Slave_mayAnswer_c0 3
theorem d_Slave_mayAnswer_7 : decode (jm_cod M_Slave_mayAnswer) 7 = .ok (.aload_n 0, 1) := dt_Slave_mayAnswer_c0 4
theorem d_Slave_mayAnswer_8 : decode (jm_cod M_Slave_mayAnswer) 8 = .ok (.aload 4, 2) := dt_Slave_mayAnswer_c0 5
theorem d_Slave_mayAnswer_10 : decode (jm_cod M_Slave_mayAnswer) 10 = .ok (.iload_n 3, 1) := dt_Slave_mayAnswer_c0 6
theorem d_Slave_mayAnswer_11 : decode (jm_cod M_Slave_mayAnswer) 11 = .ok (.invokevirtual 130, 3) := dt_Slave_mayAnswer_c0 7
theorem d_Slave_mayAnswer_14 : decode (jm_cod M_Slave_mayAnswer) 14 = .ok (.ifCond .eq 23, 3) := dt_Slave_mayAnswer_c0 8
theorem d_Slave_mayAnswer_17 : decode (jm_cod M_Slave_mayAnswer) 17 = .ok (.aload_n 1, 1) := dt_Slave_mayAnswer_c0 9
theorem d_Slave_mayAnswer_18 : decode (jm_cod M_Slave_mayAnswer) 18 = .ok (.aload 4, 2) := dt_Slave_mayAnswer_c0 10
theorem d_Slave_mayAnswer_20 : decode (jm_cod M_Slave_mayAnswer) 20 = .ok (.getfield 99, 3) := dt_Slave_mayAnswer_c0 11
theorem d_Slave_mayAnswer_23 : decode (jm_cod M_Slave_mayAnswer) 23 = .ok (.invokestatic 105, 3) := dt_Slave_mayAnswer_c0 12
theorem d_Slave_mayAnswer_26 : decode (jm_cod M_Slave_mayAnswer) 26 = .ok (.invokevirtual 152, 3) := dt_Slave_mayAnswer_c0 13
theorem d_Slave_mayAnswer_29 : decode (jm_cod M_Slave_mayAnswer) 29 = .ok (.iload_n 2, 1) := dt_Slave_mayAnswer_c0 14
theorem d_Slave_mayAnswer_30 : decode (jm_cod M_Slave_mayAnswer) 30 = .ok (.if_icmp .ne 7, 3) := dt_Slave_mayAnswer_c0 15
theorem d_Slave_mayAnswer_33 : decode (jm_cod M_Slave_mayAnswer) 33 = .ok (.iconst 1, 1) := dt_Slave_mayAnswer_c0 16
theorem d_Slave_mayAnswer_34 : decode (jm_cod M_Slave_mayAnswer) 34 = .ok (.goto 4, 3) := dt_Slave_mayAnswer_c0 17
theorem d_Slave_mayAnswer_37 : decode (jm_cod M_Slave_mayAnswer) 37 = .ok (.iconst 0, 1) := dt_Slave_mayAnswer_c0 18
theorem d_Slave_mayAnswer_38 : decode (jm_cod M_Slave_mayAnswer) 38 = .ok (.ireturn, 1) := dt_Slave_mayAnswer_c0 19
def tab_Slave_chooseLast_c0 : List (Nat × Instr × Nat) := [(0, .iconst (-1), 1), (1, .istore 4, 2), (3, .iconst 0, 1), (4, .istore 5, 2), (6, .iload 5, 2), (8, .aload_n 1, 1), (9, .getfield 54, 3), (12, .if_icmp .ge 44, 3), (15, .aload_n 0, 1), (16, .aload_n 1, 1), (17, .iload 5, 2), (19, .iload_n 3, 1), (20, .invokevirtual 141, 3), (23, .ifCond .eq 27, 3), (26, .iload 5, 2), (28, .istore 4, 2), (30, .iload_n 2, 1), (31, .ifCond .eq 19, 3), (34, .aload_n 1, 1), (35, .getfield 145, 3), (38, .iload 5, 2), (40, .aaload, 1), (41, .getfield 120, 3), (44, .ifCond .le 6, 3)]
theorem dt_Slave_chooseLast_c0 (i : Nat) : decode (jm_cod M_Slave_chooseLast) (tab_Slave_chooseLast_c0.getD i (0, .iconst (-1), 1)).1 = .ok ((tab_Slave_chooseLast_c0.getD i (0, .iconst (-1), 1)).2.1, (tab_Slave_chooseLast_c0.getD i (0, .iconst (-1), 1)).2.2) := j_tab (by decide +kernel) i
theorem d_Slave_chooseLast_0 : decode (jm_cod M_Slave_chooseLast) 0 = .ok (.iconst (-1), 1) := dt_Slave_chooseLast_c0 0
theorem d_Slave_chooseLast_1 : decode (jm_cod M_Slave_chooseLast) 1 = .ok (.istore 4, 2) := dt_Slave_chooseLast_c0 1
theorem d_Slave_chooseLast_3 : decode (jm_cod M_Slave_chooseLast) 3 = .ok (.iconst 0, 1) := dt_Slave_chooseLast_c0 2
theorem d_Slave_chooseLast_4 : decode (jm_cod M_Slave_chooseLast) 4 = .ok (.istore 5, 2) := dt_Slave_chooseLast_c0 3
theorem d_Slave_chooseLast_6 : decode (jm_cod M_Slave_chooseLast) 6 = .ok (.iload 5, 2) := dt_Slave_chooseLast_c0 4
theorem d_Slave_chooseLast_8 : decode (jm_cod M_Slave_chooseLast) 8 = .ok (.aload_n 1, 1) := dt_Slave_chooseLast_c0 5
theorem d_Slave_chooseLast_9 : decode (jm_cod M_Slave_chooseLast) 9 = .ok (.getfield 54, 3) := dt_Slave_chooseLast_c0 6
theorem d_Slave_chooseLast_12 : decode (jm_cod M_Slave_chooseLast) 12 = .ok (.if_icmp .ge 44, 3) := dt_Slave_chooseLast_c0 7
theorem d_Slave_chooseLast_15 : decode (jm_cod M_Slave_chooseLast) 15 = .ok (.aload_n 0, 1) := dt_Slave_chooseLast_c0 8
theorem d_Slave_chooseLast_16 : decode (jm_cod M_Slave_chooseLast) 16 = .ok (.aload_n 1, 1) := dt_Slave_chooseLast_c0 9
theorem d_Slave_chooseLast_17 : decode (jm_cod M_Slave_chooseLast) 17 = .ok (.iload 5, 2) := dt_Slave_chooseLast_c0 10
theorem d_Slave_chooseLast_19 : decode (jm_cod M_Slave_chooseLast) 19 = .ok (.iload_n 3, 1) := dt_Slave_chooseLast_c0 11
theorem d_Slave_chooseLast_20 : decode (jm_cod M_Slave_chooseLast) 20 = .ok (.invokevirtual 141, 3) := dt_Slave_chooseLast_c0 12
theorem d_Slave_chooseLast_23 : decode (jm_cod M_Slave_chooseLast) 23 = .ok (.ifCond .eq 27, 3) := dt_Slave_chooseLast_c0 13
theorem d_Slave_chooseLast_26 : decode (jm_cod M_Slave_chooseLast) 26 = .ok (.iload 5, 2) := dt_Slave_chooseLast_c0 14
theorem d_Slave_chooseLast_28 : decode (jm_cod M_Slave_chooseLast) 28 = .ok (.istore 4, 2) := dt_Slave_chooseLast_c0 15
theorem d_Slave_chooseLast_30 : decode (jm_cod M_Slave_chooseLast) 30 = .ok (.iload_n 2, 1) := dt_Slave_chooseLast_c0 16
theorem d_Slave_chooseLast_31 : decode (jm_cod M_Slave_chooseLast) 31 = .ok (.ifCond .eq 19, 3) := dt_Slave_chooseLast_c0 17
theorem d_Slave_chooseLast_34 : decode (jm_cod M_Slave_chooseLast) 34 = .ok (.aload_n 1, 1) := dt_Slave_chooseLast_c0 18
theorem d_Slave_chooseLast_35 : decode (jm_cod M_Slave_chooseLast) 35 = .ok (.getfield 145, 3) := dt_Slave_chooseLast_c0 19
theorem d_Slave_chooseLast_38 : decode (jm_cod M_Slave_chooseLast) 38 = .ok (.iload 5, 2) := dt_Slave_chooseLast_c0 20
theorem d_Slave_chooseLast_40 : decode (jm_cod M_Slave_chooseLast) 40 = .ok (.aaload, 1) := dt_Slave_chooseLast_c0 21
theorem d_Slave_chooseLast_41 : decode (jm_cod M_Slave_chooseLast) 41 = .ok (.getfield 120, 3) := dt_Slave_chooseLast_c0 22
theorem d_Slave_chooseLast_44 : decode (jm_cod M_Slave_chooseLast) 44 = .ok (.ifCond .le 6, 3) := dt_Slave_chooseLast_c0 23
def tab_Slave_chooseLast_c1 : List (Nat × Instr × Nat) := [(47, .iload 5, 2), (49, .ireturn, 1), (50, .iinc 5 1, 3), (53, .goto (-47), 3), (56, .iload 4, 2), (58, .ireturn, 1)]
theorem dt_Slave_chooseLast_c1 (i : Nat) : decode (jm_cod M_Slave_chooseLast) (tab_Slave_chooseLast_c1.getD i (47, .iload 5, 2)).1 = .ok ((tab_Slave_chooseLast_c1.getD i (47, .iload 5, 2)).2.1, (tab_Slave_chooseLast_c1.getD i (47, .iload 5, 2)).2.2) := j_tab (by decide +kernel) i
theorem d_Slave_chooseLast_47 : decode (jm_cod M_Slave_chooseLast) 47 = .ok (.iload 5, 2) := dt_Slave_chooseLast_c1 0
theorem d_Slave_chooseLast_49 : decode (jm_cod M_Slave_chooseLast) 49 = .ok (.ireturn, 1) := dt_Slave_chooseLast_c1 1
theorem d_Slave_chooseLast_50 : decode (jm_cod M_Slave_chooseLast) 50 = .ok (.iinc 5 1, 3) := dt_Slave_chooseLast_c1 2
theorem d_Slave_chooseLast_53 : decode (jm_cod M_Slave_chooseLast) 53 = .ok (.goto (-47), 3) := dt_Slave_chooseLast_c1 3
theorem d_Slave_chooseLast_56 : decode (jm_cod M_Slave_chooseLast) 56 = .ok (.iload 4, 2) := dt_Slave_chooseLast_c1 4
theorem d_Slave_chooseLast_58 : decode (jm_cod M_Slave_chooseLast) 58 = .ok (.ireturn, 1) := dt_Slave_chooseLast_c1 5
def tab_Slave_sendAnswer_c0 : List (Nat × Instr × Nat) := [(0, .aload_n 1, 1), (1, .ifnull 24, 3), (4, .aload_n 0, 1), (5, .iconst 2, 1), (6, .lconst 0, 1), (7, .aload_n 1, 1), (8, .getfield 99, 3), (11, .invokestatic 105, 3), (14, .aload_n 1, 1), (15, .getfield 109, 3), (18, .iconst 0, 1), (19, .invokestatic 112, 3), (22, .invokevirtual 116, 3), (25, .return_, 1)]
theorem dt_Slave_sendAnswer_c0 (i : Nat) : decode (jm_cod M_Slave_sendAnswer) (tab_Slave_sendAnswer_c0.getD i (0, .aload_n 1, 1)).1 = .ok ((tab_Slave_sendAnswer_c0.getD i (0, .aload_n 1, 1)).2.1, (tab_Slave_sendAnswer_c0.getD i (0, .aload_n 1, 1)).2.2) := j_tab (by decide +kernel) i
theorem d_Slave_sendAnswer_0 : decode (jm_cod M_Slave_sendAnswer) 0 = .ok (.aload_n 1, 1) := dt_Slave_sendAnswer_c0 0
theorem d_Slave_sendAnswer_1 : decode (jm_cod M_Slave_sendAnswer) 1 = .ok (.ifnull 24, 3) := dt_Slave_sendAnswer_c0 1
theorem d_Slave_sendAnswer_4 : decode (jm_cod M_Slave_sendAnswer) 4 = .ok (.aload_n 0, 1) := dt_Slave_sendAnswer_c0 2
theorem d_Slave_sendAnswer_5 : decode (jm_cod M_Slave_sendAnswer) 5 = .ok (.iconst 2, 1) := dt_Slave_sendAnswer_c0 3
theorem d_Slave_sendAnswer_6 : decode (jm_cod M_Slave_sendAnswer) 6 = .ok (.lconst 0, 1) := dt_Slave_sendAnswer_c0 4
theorem d_Slave_sendAnswer_7 : decode (jm_cod M_Slave_sendAnswer) 7 = .ok (.aload_n 1, 1) := dt_Slave_sendAnswer_c0 5
theorem d_Slave_sendAnswer_8 : decode (jm_cod M_Slave_sendAnswer) 8 = .ok (.getfield 99, 3) := dt_Slave_sendAnswer_c0 6
theorem d_Slave_sendAnswer_11 : decode (jm_cod M_Slave_sendAnswer) 11 = .ok (.invokestatic 105, 3) := dt_Slave_sendAnswer_c0 7
theorem d_Slave_sendAnswer_14 : decode (jm_cod M_Slave_sendAnswer) 14 = .ok (.aload_n 1, 1) := dt_Slave_sendAnswer_c0 8
theorem d_Slave_sendAnswer_15 : decode (jm_cod M_Slave_sendAnswer) 15 = .ok (.getfield 109, 3) := dt_Slave_sendAnswer_c0 9
theorem d_Slave_sendAnswer_18 : decode (jm_cod M_Slave_sendAnswer) 18 = .ok (.iconst 0, 1) := dt_Slave_sendAnswer_c0 10
theorem d_Slave_sendAnswer_19 : decode (jm_cod M_Slave_sendAnswer) 19 = .ok (.invokestatic 112, 3) := dt_Slave_sendAnswer_c0 11
theorem d_Slave_sendAnswer_22 : decode (jm_cod M_Slave_sendAnswer) 22 = .ok (.invokevirtual 116, 3) := dt_Slave_sendAnswer_c0 12
theorem d_Slave_sendAnswer_25 : decode (jm_cod M_Slave_sendAnswer) 25 = .ok (.return_, 1) := dt_Slave_sendAnswer_c0 13
def tab_Slave_sendReadBeat_c0 : List (Nat × Instr × Nat) := [(0, .aload_n 1, 1), (1, .ifnull 35, 3), (4, .aload_n 1, 1), (5, .getfield 120, 3), (8, .bipush 16, 2), (10, .if_icmp .ge 26, 3), (13, .aload_n 0, 1), (14, .iconst 4, 1), (15, .aload_n 1, 1), (16, .getfield 123, 3), (19, .aload_n 1, 1), (20, .getfield 120, 3), (23, .laload, 1), (24, .aload_n 1, 1), (25, .getfield 127, 3), (28, .aload_n 1, 1), (29, .getfield 120, 3), (32, .iaload, 1), (33, .invokevirtual 116, 3), (36, .return_, 1)]
theorem dt_Slave_sendReadBeat_c0 (i : Nat) : decode (jm_cod M_Slave_sendReadBeat) (tab_Slave_sendReadBeat_c0.getD i (0, .aload_n 1, 1)).1 = .ok ((tab_Slave_sendReadBeat_c0.getD i (0, .aload_n 1, 1)).2.1, (tab_Slave_sendReadBeat_c0.getD i (0, .aload_n 1, 1)).2.2) := j_tab (by decide +kernel) i
theorem d_Slave_sendReadBeat_0 : decode (jm_cod M_Slave_sendReadBeat) 0 = .ok (.aload_n 1, 1) := dt_Slave_sendReadBeat_c0 0
theorem d_Slave_sendReadBeat_1 : decode (jm_cod M_Slave_sendReadBeat) 1 = .ok (.ifnull 35, 3) := dt_Slave_sendReadBeat_c0 1
theorem d_Slave_sendReadBeat_4 : decode (jm_cod M_Slave_sendReadBeat) 4 = .ok (.aload_n 1, 1) := dt_Slave_sendReadBeat_c0 2
theorem d_Slave_sendReadBeat_5 : decode (jm_cod M_Slave_sendReadBeat) 5 = .ok (.getfield 120, 3) := dt_Slave_sendReadBeat_c0 3
theorem d_Slave_sendReadBeat_8 : decode (jm_cod M_Slave_sendReadBeat) 8 = .ok (.bipush 16, 2) := dt_Slave_sendReadBeat_c0 4
theorem d_Slave_sendReadBeat_10 : decode (jm_cod M_Slave_sendReadBeat) 10 = .ok (.if_icmp .ge 26, 3) := dt_Slave_sendReadBeat_c0 5
theorem d_Slave_sendReadBeat_13 : decode (jm_cod M_Slave_sendReadBeat) 13 = .ok (.aload_n 0, 1) := dt_Slave_sendReadBeat_c0 6
theorem d_Slave_sendReadBeat_14 : decode (jm_cod M_Slave_sendReadBeat) 14 = .ok (.iconst 4, 1) := dt_Slave_sendReadBeat_c0 7
theorem d_Slave_sendReadBeat_15 : decode (jm_cod M_Slave_sendReadBeat) 15 = .ok (.aload_n 1, 1) := dt_Slave_sendReadBeat_c0 8
theorem d_Slave_sendReadBeat_16 : decode (jm_cod M_Slave_sendReadBeat) 16 = .ok (.getfield 123, 3) := dt_Slave_sendReadBeat_c0 9
theorem d_Slave_sendReadBeat_19 : decode (jm_cod M_Slave_sendReadBeat) 19 = .ok (.aload_n 1, 1) := dt_Slave_sendReadBeat_c0 10
theorem d_Slave_sendReadBeat_20 : decode (jm_cod M_Slave_sendReadBeat) 20 = .ok (.getfield 120, 3) := dt_Slave_sendReadBeat_c0 11
theorem d_Slave_sendReadBeat_23 : decode (jm_cod M_Slave_sendReadBeat) 23 = .ok (.laload, 1) := dt_Slave_sendReadBeat_c0 12
theorem d_Slave_sendReadBeat_24 : decode (jm_cod M_Slave_sendReadBeat) 24 = .ok (.aload_n 1, 1) := dt_Slave_sendReadBeat_c0 13
theorem d_Slave_sendReadBeat_25 : decode (jm_cod M_Slave_sendReadBeat) 25 = .ok (.getfield 127, 3) := dt_Slave_sendReadBeat_c0 14
theorem d_Slave_sendReadBeat_28 : decode (jm_cod M_Slave_sendReadBeat) 28 = .ok (.aload_n 1, 1) := dt_Slave_sendReadBeat_c0 15
theorem d_Slave_sendReadBeat_29 : decode (jm_cod M_Slave_sendReadBeat) 29 = .ok (.getfield 120, 3) := dt_Slave_sendReadBeat_c0 16
theorem d_Slave_sendReadBeat_32 : decode (jm_cod M_Slave_sendReadBeat) 32 = .ok (.iaload, 1) := dt_Slave_sendReadBeat_c0 17
theorem d_Slave_sendReadBeat_33 : decode (jm_cod M_Slave_sendReadBeat) 33 = .ok (.invokevirtual 116, 3) := dt_Slave_sendReadBeat_c0 18
theorem d_Slave_sendReadBeat_36 : decode (jm_cod M_Slave_sendReadBeat) 36 = .ok (.return_, 1) := dt_Slave_sendReadBeat_c0 19
def tab_Slave_pass_c0 : List (Nat × Instr × Nat) := [(0, .iload_n 2, 1), (1, .tableswitch 109 0 3 #[31, 48, 74, 88], 31), (32, .aload_n 0, 1), (33, .getfield 20, 3), (36, .aload_n 1, 1), (37, .getfield 155, 3), (40, .iconst 0, 1), (41, .laload, 1), (42, .invokevirtual 158, 3), (45, .pop, 1), (46, .goto 79, 3), (49, .aload_n 0, 1), (50, .aload_n 0, 1), (51, .getfield 20, 3), (54, .aload_n 0, 1), (55, .getfield 20, 3), (58, .invokevirtual 77, 3), (61, .invokevirtual 88, 3), (64, .aload_n 1, 1), (65, .iload_n 3, 1), (66, .invokestatic 162, 3), (69, .invokevirtual 166, 3), (72, .goto 53, 3), (75, .aload_n 0, 1)]
theorem dt_Slave_pass_c0 (i : Nat) : decode (jm_cod M_Slave_pass) (tab_Slave_pass_c0.getD i (0, .iload_n 2, 1)).1 = .ok ((tab_Slave_pass_c0.getD i (0, .iload_n 2, 1)).2.1, (tab_Slave_pass_c0.getD i (0, .iload_n 2, 1)).2.2) := j_tab (by decide +kernel) i
theorem d_Slave_pass_0 : decode (jm_cod M_Slave_pass) 0 = .ok (.iload_n 2, 1) := dt_Slave_pass_c0 0
theorem d_Slave_pass_1 : decode (jm_cod M_Slave_pass) 1 = .ok (.tableswitch 109 0 3 #[31, 48, 74, 88], 31) := dt_Slave_pass_c0 1
theorem d_Slave_pass_32 : decode (jm_cod M_Slave_pass) 32 = .ok (.aload_n 0, 1) := dt_Slave_pass_c0 2
theorem d_Slave_pass_33 : decode (jm_cod M_Slave_pass) 33 = .ok (.getfield 20, 3) := dt_Slave_pass_c0 3
theorem d_Slave_pass_36 : decode (jm_cod M_Slave_pass) 36 = .ok (.aload_n 1, 1) := dt_Slave_pass_c0 4
theorem d_Slave_pass_37 : decode (jm_cod M_Slave_pass) 37 = .ok (.getfield 155, 3) := dt_Slave_pass_c0 5
theorem d_Slave_pass_40 : decode (jm_cod M_Slave_pass) 40 = .ok (.iconst 0, 1) := dt_Slave_pass_c0 6
theorem d_Slave_pass_41 : decode (jm_cod M_Slave_pass) 41 = .ok (.laload, 1) := dt_Slave_pass_c0 7
theorem d_Slave_pass_42 : decode (jm_cod M_Slave_pass) 42 = .ok (.invokevirtual 158, 3) := dt_Slave_pass_c0 8
theorem d_Slave_pass_45 : decode (jm_cod M_Slave_pass) 45 = .ok (.pop, 1) := dt_Slave_pass_c0 9
theorem d_Slave_pass_46 : decode (jm_cod M_Slave_pass) 46 = .ok (.goto 79, 3) := dt_Slave_pass_c0 10
theorem d_Slave_pass_49 : decode (jm_cod M_Slave_pass) 49 = .ok (.aload_n 0, 1) := dt_Slave_pass_c0 11
theorem d_Slave_pass_50 : decode (jm_cod M_Slave_pass) 50 = .ok (.aload_n 0, 1) := dt_Slave_pass_c0 12
theorem d_Slave_pass_51 : decode (jm_cod M_Slave_pass) 51 = .ok (.getfield 20, 3) := dt_Slave_pass_c0 13
theorem d_Slave_pass_54 : decode (jm_cod M_Slave_pass) 54 = .ok (.aload_n 0, 1) := dt_Slave_pass_c0 14
theorem d_Slave_pass_55 : decode (jm_cod M_Slave_pass) 55 = .ok (.getfield 20, 3) := dt_Slave_pass_c0 15
theorem d_Slave_pass_58 : decode (jm_cod M_Slave_pass) 58 = .ok (.invokevirtual 77, 3) := dt_Slave_pass_c0 16
theorem d_Slave_pass_61 : decode (jm_cod M_Slave_pass) 61 = .ok (.invokevirtual 88, 3) := dt_Slave_pass_c0 17
theorem d_Slave_pass_64 : decode (jm_cod M_Slave_pass) 64 = .ok (.aload_n 1, 1) := dt_Slave_pass_c0 18
theorem d_Slave_pass_65 : decode (jm_cod M_Slave_pass) 65 = .ok (.iload_n 3, 1) := dt_Slave_pass_c0 19
theorem d_Slave_pass_66 : decode (jm_cod M_Slave_pass) 66 = .ok (.invokestatic 162, 3) := dt_Slave_pass_c0 20
theorem d_Slave_pass_69 : decode (jm_cod M_Slave_pass) 69 = .ok (.invokevirtual 166, 3) := dt_Slave_pass_c0 21
theorem d_Slave_pass_72 : decode (jm_cod M_Slave_pass) 72 = .ok (.goto 53, 3) := dt_Slave_pass_c0 22
theorem d_Slave_pass_75 : decode (jm_cod M_Slave_pass) 75 = .ok (.aload_n 0, 1) := dt_Slave_pass_c0 23
def tab_Slave_pass_c1 : List (Nat × Instr × Nat) := [(76, .getfield 20, 3), (79, .aload_n 0, 1), (80, .getfield 33, 3), (83, .invokevirtual 170, 3), (86, .goto 39, 3), (89, .aload_n 0, 1), (90, .aload_n 0, 1), (91, .getfield 24, 3), (94, .aload_n 1, 1), (95, .getfield 155, 3), (98, .iconst 3, 1), (99, .laload, 1), (100, .invokevirtual 158, 3), (103, .iload_n 3, 1), (104, .invokevirtual 173, 3), (107, .goto 18, 3), (110, .aload_n 0, 1), (111, .aload_n 0, 1), (112, .getfield 24, 3), (115, .aload_n 0, 1), (116, .getfield 37, 3), (119, .invokevirtual 88, 3), (122, .invokevirtual 177, 3), (125, .return_, 1)]
theorem dt_Slave_pass_c1 (i : Nat) : decode (jm_cod M_Slave_pass) (tab_Slave_pass_c1.getD i (76, .getfield 20, 3)).1 = .ok ((tab_Slave_pass_c1.getD i (76, .getfield 20, 3)).2.1, (tab_Slave_pass_c1.getD i (76, .getfield 20, 3)).2.2) := j_tab (by decide +kernel) i
theorem d_Slave_pass_76 : decode (jm_cod M_Slave_pass) 76 = .ok (.getfield 20, 3) := dt_Slave_pass_c1 0
theorem d_Slave_pass_79 : decode (jm_cod M_Slave_pass) 79 = .ok (.aload_n 0, 1) := dt_Slave_pass_c1 1
theorem d_Slave_pass_80 : decode (jm_cod M_Slave_pass) 80 = .ok (.getfield 33, 3) := dt_Slave_pass_c1 2
theorem d_Slave_pass_83 : decode (jm_cod M_Slave_pass) 83 = .ok (.invokevirtual 170, 3) := dt_Slave_pass_c1 3
theorem d_Slave_pass_86 : decode (jm_cod M_Slave_pass) 86 = .ok (.goto 39, 3) := dt_Slave_pass_c1 4
theorem d_Slave_pass_89 : decode (jm_cod M_Slave_pass) 89 = .ok (.aload_n 0, 1) := dt_Slave_pass_c1 5
theorem d_Slave_pass_90 : decode (jm_cod M_Slave_pass) 90 = .ok (.aload_n 0, 1) := dt_Slave_pass_c1 6
theorem d_Slave_pass_91 : decode (jm_cod M_Slave_pass) 91 = .ok (.getfield 24, 3) := dt_Slave_pass_c1 7
theorem d_Slave_pass_94 : decode (jm_cod M_Slave_pass) 94 = .ok (.aload_n 1, 1) := dt_Slave_pass_c1 8
theorem d_Slave_pass_95 : decode (jm_cod M_Slave_pass) 95 = .ok (.getfield 155, 3) := dt_Slave_pass_c1 9
theorem d_Slave_pass_98 : decode (jm_cod M_Slave_pass) 98 = .ok (.iconst 3, 1) := dt_Slave_pass_c1 10
theorem d_Slave_pass_99 : decode (jm_cod M_Slave_pass) 99 = .ok (.laload, 1) := dt_Slave_pass_c1 11
theorem d_Slave_pass_100 : decode (jm_cod M_Slave_pass) 100 = .ok (.invokevirtual 158, 3) := dt_Slave_pass_c1 12
theorem d_Slave_pass_103 : decode (jm_cod M_Slave_pass) 103 = .ok (.iload_n 3, 1) := dt_Slave_pass_c1 13
theorem d_Slave_pass_104 : decode (jm_cod M_Slave_pass) 104 = .ok (.invokevirtual 173, 3) := dt_Slave_pass_c1 14
theorem d_Slave_pass_107 : decode (jm_cod M_Slave_pass) 107 = .ok (.goto 18, 3) := dt_Slave_pass_c1 15
theorem d_Slave_pass_110 : decode (jm_cod M_Slave_pass) 110 = .ok (.aload_n 0, 1) := dt_Slave_pass_c1 16
theorem d_Slave_pass_111 : decode (jm_cod M_Slave_pass) 111 = .ok (.aload_n 0, 1) := dt_Slave_pass_c1 17
theorem d_Slave_pass_112 : decode (jm_cod M_Slave_pass) 112 = .ok (.getfield 24, 3) := dt_Slave_pass_c1 18
theorem d_Slave_pass_115 : decode (jm_cod M_Slave_pass) 115 = .ok (.aload_n 0, 1) := dt_Slave_pass_c1 19
theorem d_Slave_pass_116 : decode (jm_cod M_Slave_pass) 116 = .ok (.getfield 37, 3) := dt_Slave_pass_c1 20
theorem d_Slave_pass_119 : decode (jm_cod M_Slave_pass) 119 = .ok (.invokevirtual 88, 3) := dt_Slave_pass_c1 21
theorem d_Slave_pass_122 : decode (jm_cod M_Slave_pass) 122 = .ok (.invokevirtual 177, 3) := dt_Slave_pass_c1 22
theorem d_Slave_pass_125 : decode (jm_cod M_Slave_pass) 125 = .ok (.return_, 1) := dt_Slave_pass_c1 23
def tab_Slave_takeBeat_c0 : List (Nat × Instr × Nat) := [(0, .aload_n 0, 1), (1, .ifnonnull 5, 3), (4, .aconst_null, 1), (5, .areturn, 1), (6, .aload_n 0, 1), (7, .aload_n 1, 1), (8, .getfield 155, 3), (11, .iconst 1, 1), (12, .laload, 1), (13, .aload_n 1, 1), (14, .getfield 183, 3), (17, .iconst 1, 1), (18, .iaload, 1), (19, .invokevirtual 184, 3), (22, .aload_n 0, 1), (23, .getfield 120, 3), (26, .aload_n 0, 1), (27, .getfield 99, 3), (30, .invokestatic 180, 3), (33, .if_icmp .ge 5, 3), (36, .aconst_null, 1), (37, .areturn, 1), (38, .aload_n 0, 1), (39, .iconst 1, 1)]
theorem dt_Slave_takeBeat_c0 (i : Nat) : decode (jm_cod M_Slave_takeBeat) (tab_Slave_takeBeat_c0.getD i (0, .aload_n 0, 1)).1 = .ok ((tab_Slave_takeBeat_c0.getD i (0, .aload_n 0, 1)).2.1, (tab_Slave_takeBeat_c0.getD i (0, .aload_n 0, 1)).2.2) := j_tab (by decide +kernel) i
theorem d_Slave_takeBeat_0 : decode (jm_cod M_Slave_takeBeat) 0 = .ok (.aload_n 0, 1) := dt_Slave_takeBeat_c0 0
theorem d_Slave_takeBeat_1 : decode (jm_cod M_Slave_takeBeat) 1 = .ok (.ifnonnull 5, 3) := dt_Slave_takeBeat_c0 1
theorem d_Slave_takeBeat_4 : decode (jm_cod M_Slave_takeBeat) 4 = .ok (.aconst_null, 1) := dt_Slave_takeBeat_c0 2
theorem d_Slave_takeBeat_5 : decode (jm_cod M_Slave_takeBeat) 5 = .ok (.areturn, 1) := dt_Slave_takeBeat_c0 3
theorem d_Slave_takeBeat_6 : decode (jm_cod M_Slave_takeBeat) 6 = .ok (.aload_n 0, 1) := dt_Slave_takeBeat_c0 4
theorem d_Slave_takeBeat_7 : decode (jm_cod M_Slave_takeBeat) 7 = .ok (.aload_n 1, 1) := dt_Slave_takeBeat_c0 5
theorem d_Slave_takeBeat_8 : decode (jm_cod M_Slave_takeBeat) 8 = .ok (.getfield 155, 3) := dt_Slave_takeBeat_c0 6
theorem d_Slave_takeBeat_11 : decode (jm_cod M_Slave_takeBeat) 11 = .ok (.iconst 1, 1) := dt_Slave_takeBeat_c0 7
theorem d_Slave_takeBeat_12 : decode (jm_cod M_Slave_takeBeat) 12 = .ok (.laload, 1) := dt_Slave_takeBeat_c0 8
theorem d_Slave_takeBeat_13 : decode (jm_cod M_Slave_takeBeat) 13 = .ok (.aload_n 1, 1) := dt_Slave_takeBeat_c0 9
theorem d_Slave_takeBeat_14 : decode (jm_cod M_Slave_takeBeat) 14 = .ok (.getfield 183, 3) := dt_Slave_takeBeat_c0 10
theorem d_Slave_takeBeat_17 : decode (jm_cod M_Slave_takeBeat) 17 = .ok (.iconst 1, 1) := dt_Slave_takeBeat_c0 11
theorem d_Slave_takeBeat_18 : decode (jm_cod M_Slave_takeBeat) 18 = .ok (.iaload, 1) := dt_Slave_takeBeat_c0 12
theorem d_Slave_takeBeat_19 : decode (jm_cod M_Slave_takeBeat) 19 = .ok (.invokevirtual 184, 3) := dt_Slave_takeBeat_c0 13
theorem d_Slave_takeBeat_22 : decode (jm_cod M_Slave_takeBeat) 22 = .ok (.aload_n 0, 1) := dt_Slave_takeBeat_c0 14
theorem d_Slave_takeBeat_23 : decode (jm_cod M_Slave_takeBeat) 23 = .ok (.getfield 120, 3) := dt_Slave_takeBeat_c0 15
theorem d_Slave_takeBeat_26 : decode (jm_cod M_Slave_takeBeat) 26 = .ok (.aload_n 0, 1) := dt_Slave_takeBeat_c0 16
theorem d_Slave_takeBeat_27 : decode (jm_cod M_Slave_takeBeat) 27 = .ok (.getfield 99, 3) := dt_Slave_takeBeat_c0 17
theorem d_Slave_takeBeat_30 : decode (jm_cod M_Slave_takeBeat) 30 = .ok (.invokestatic 180, 3) := dt_Slave_takeBeat_c0 18
theorem d_Slave_takeBeat_33 : decode (jm_cod M_Slave_takeBeat) 33 = .ok (.if_icmp .ge 5, 3) := dt_Slave_takeBeat_c0 19
theorem d_Slave_takeBeat_36 : decode (jm_cod M_Slave_takeBeat) 36 = .ok (.aconst_null, 1) := dt_Slave_takeBeat_c0 20
theorem d_Slave_takeBeat_37 : decode (jm_cod M_Slave_takeBeat) 37 = .ok (.areturn, 1) := dt_Slave_takeBeat_c0 21
theorem d_Slave_takeBeat_38 : decode (jm_cod M_Slave_takeBeat) 38 = .ok (.aload_n 0, 1) := dt_Slave_takeBeat_c0 22
theorem d_Slave_takeBeat_39 : decode (jm_cod M_Slave_takeBeat) 39 = .ok (.iconst 1, 1) := dt_Slave_takeBeat_c0 23
def tab_Slave_takeBeat_c1 : List (Nat × Instr × Nat) := [(40, .putfield 187, 3), (43, .aload_n 0, 1), (44, .iload_n 2, 1), (45, .putfield 149, 3), (48, .aload_n 0, 1), (49, .areturn, 1)]
theorem dt_Slave_takeBeat_c1 (i : Nat) : decode (jm_cod M_Slave_takeBeat) (tab_Slave_takeBeat_c1.getD i (40, .putfield 187, 3)).1 = .ok ((tab_Slave_takeBeat_c1.getD i (40, .putfield 187, 3)).2.1, (tab_Slave_takeBeat_c1.getD i (40, .putfield 187, 3)).2.2) := j_tab (by decide +kernel) i
theorem d_Slave_takeBeat_40 : decode (jm_cod M_Slave_takeBeat) 40 = .ok (.putfield 187, 3) := dt_Slave_takeBeat_c1 0
theorem d_Slave_takeBeat_43 : decode (jm_cod M_Slave_takeBeat) 43 = .ok (.aload_n 0, 1) := dt_Slave_takeBeat_c1 1
theorem d_Slave_takeBeat_44 : decode (jm_cod M_Slave_takeBeat) 44 = .ok (.iload_n 2, 1) := dt_Slave_takeBeat_c1 2
theorem d_Slave_takeBeat_45 : decode (jm_cod M_Slave_takeBeat) 45 = .ok (.putfield 149, 3) := dt_Slave_takeBeat_c1 3
theorem d_Slave_takeBeat_48 : decode (jm_cod M_Slave_takeBeat) 48 = .ok (.aload_n 0, 1) := dt_Slave_takeBeat_c1 4
theorem d_Slave_takeBeat_49 : decode (jm_cod M_Slave_takeBeat) 49 = .ok (.areturn, 1) := dt_Slave_takeBeat_c1 5
def tab_Slave_doWrite_c0 : List (Nat × Instr × Nat) := [(0, .aload_n 1, 1), (1, .ifnonnull 4, 3), (4, .return_, 1), (5, .aload_n 1, 1), (6, .getfield 99, 3), (9, .invokestatic 191, 3), (12, .istore_n 2, 1), (13, .iload_n 2, 1), (14, .ifCond .eq 14, 3), (17, .aload_n 0, 1), (18, .aload_n 1, 1), (19, .getfield 99, 3), (22, .invokevirtual 195, 3), (25, .ifCond .eq 7, 3), (28, .iconst 1, 1), (29, .goto 4, 3), (32, .iconst 0, 1), (33, .istore_n 3, 1), (34, .iload_n 2, 1), (35, .ifCond .eq 16, 3), (38, .aload_n 0, 1), (39, .getfield 27, 3), (42, .aload_n 1, 1), (43, .getfield 99, 3)]
theorem dt_Slave_doWrite_c0 (i : Nat) : decode (jm_cod M_Slave_doWrite) (tab_Slave_doWrite_c0.getD i (0, .aload_n 1, 1)).1 = .ok ((tab_Slave_doWrite_c0.getD i (0, .aload_n 1, 1)).2.1, (tab_Slave_doWrite_c0.getD i (0, .aload_n 1, 1)).2.2) := j_tab (by decide +kernel) i
theorem d_Slave_doWrite_0 : decode (jm_cod M_Slave_doWrite) 0 = .ok (.aload_n 1, 1) := dt_Slave_doWrite_c0 0
theorem d_Slave_doWrite_1 : decode (jm_cod M_Slave_doWrite) 1 = .ok (.ifnonnull 4, 3) := dt_Slave_doWrite_c0 1
theorem d_Slave_doWrite_4 : decode (jm_cod M_Slave_doWrite) 4 = .ok (.return_, 1) := dt_Slave_doWrite_c0 2
theorem d_Slave_doWrite_5 : decode (jm_cod M_Slave_doWrite) 5 = .ok (.aload_n 1, 1) := dt_Slave_doWrite_c0 3
theorem d_Slave_doWrite_6 : decode (jm_cod M_Slave_doWrite) 6 = .ok (.getfield 99, 3) := dt_Slave_doWrite_c0 4
theorem d_Slave_doWrite_9 : decode (jm_cod M_Slave_doWrite) 9 = .ok (.invokestatic 191, 3) := dt_Slave_doWrite_c0 5
theorem d_Slave_doWrite_12 : decode (jm_cod M_Slave_doWrite) 12 = .ok (.istore_n 2, 1) := dt_Slave_doWrite_c0 6
theorem d_Slave_doWrite_13 : decode (jm_cod M_Slave_doWrite) 13 = .ok (.iload_n 2, 1) := dt_Slave_doWrite_c0 7
theorem d_Slave_doWrite_14 : decode (jm_cod M_Slave_doWrite) 14 = .ok (.ifCond .eq 14, 3) := dt_Slave_doWrite_c0 8
theorem d_Slave_doWrite_17 : decode (jm_cod M_Slave_doWrite) 17 = .ok (.aload_n 0, 1) := dt_Slave_doWrite_c0 9
theorem d_Slave_doWrite_18 : decode (jm_cod M_Slave_doWrite) 18 = .ok (.aload_n 1, 1) := dt_Slave_doWrite_c0 10
theorem d_Slave_doWrite_19 : decode (jm_cod M_Slave_doWrite) 19 = .ok (.getfield 99, 3) := dt_Slave_doWrite_c0 11
theorem d_Slave_doWrite_22 : decode (jm_cod M_Slave_doWrite) 22 = .ok (.invokevirtual 195, 3) := dt_Slave_doWrite_c0 12
theorem d_Slave_doWrite_25 : decode (jm_cod M_Slave_doWrite) 25 = .ok (.ifCond .eq 7, 3) := dt_Slave_doWrite_c0 13
theorem d_Slave_doWrite_28 : decode (jm_cod M_Slave_doWrite) 28 = .ok (.iconst 1, 1) := dt_Slave_doWrite_c0 14
theorem d_Slave_doWrite_29 : decode (jm_cod M_Slave_doWrite) 29 = .ok (.goto 4, 3) := dt_Slave_doWrite_c0 15
theorem d_Slave_doWrite_32 : decode (jm_cod M_Slave_doWrite) 32 = .ok (.iconst 0, 1) := dt_Slave_doWrite_c0 16
theorem d_Slave_doWrite_33 : decode (jm_cod M_Slave_doWrite) 33 = .ok (.istore_n 3, 1) := dt_Slave_doWrite_c0 17
theorem d_Slave_doWrite_34 : decode (jm_cod M_Slave_doWrite) 34 = .ok (.iload_n 2, 1) := dt_Slave_doWrite_c0 18
theorem d_Slave_doWrite_35 : decode (jm_cod M_Slave_doWrite) 35 = .ok (.ifCond .eq 16, 3) := dt_Slave_doWrite_c0 19
theorem d_Slave_doWrite_38 : decode (jm_cod M_Slave_doWrite) 38 = .ok (.aload_n 0, 1) := dt_Slave_doWrite_c0 20
theorem d_Slave_doWrite_39 : decode (jm_cod M_Slave_doWrite) 39 = .ok (.getfield 27, 3) := dt_Slave_doWrite_c0 21
theorem d_Slave_doWrite_42 : decode (jm_cod M_Slave_doWrite) 42 = .ok (.aload_n 1, 1) := dt_Slave_doWrite_c0 22
theorem d_Slave_doWrite_43 : decode (jm_cod M_Slave_doWrite) 43 = .ok (.getfield 99, 3) := dt_Slave_doWrite_c0 23
def tab_Slave_doWrite_c1 : List (Nat × Instr × Nat) := [(46, .invokestatic 105, 3), (49, .iconst (-1), 1), (50, .iastore, 1), (51, .aload_n 0, 1), (52, .aload_n 1, 1), (53, .invokevirtual 198, 3), (56, .ifCond .eq 11, 3), (59, .aload_n 1, 1), (60, .iconst 2, 1), (61, .putfield 109, 3), (64, .goto 25, 3), (67, .iload_n 3, 1), (68, .ifCond .eq 21, 3), (71, .aload_n 0, 1), (72, .aload_n 1, 1), (73, .invokevirtual 202, 3), (76, .aload_n 1, 1), (77, .iload_n 2, 1), (78, .ifCond .eq 7, 3), (81, .iconst 1, 1), (82, .goto 4, 3), (85, .iconst 0, 1), (86, .putfield 109, 3), (89, .return_, 1)]
theorem dt_Slave_doWrite_c1 (i : Nat) : decode (jm_cod M_Slave_doWrite) (tab_Slave_doWrite_c1.getD i (46, .invokestatic 105, 3)).1 = .ok ((tab_Slave_doWrite_c1.getD i (46, .invokestatic 105, 3)).2.1, (tab_Slave_doWrite_c1.getD i (46, .invokestatic 105, 3)).2.2) := j_tab (by decide +kernel) i
theorem d_Slave_doWrite_46 : decode (jm_cod M_Slave_doWrite) 46 = .ok (.invokestatic 105, 3) := dt_Slave_doWrite_c1 0
theorem d_Slave_doWrite_49 : decode (jm_cod M_Slave_doWrite) 49 = .ok (.iconst (-1), 1) := dt_Slave_doWrite_c1 1
theorem d_Slave_doWrite_50 : decode (jm_cod M_Slave_doWrite) 50 = .ok (.iastore, 1) := dt_Slave_doWrite_c1 2
theorem d_Slave_doWrite_51 : decode (jm_cod M_Slave_doWrite) 51 = .ok (.aload_n 0, 1) := dt_Slave_doWrite_c1 3
theorem d_Slave_doWrite_52 : decode (jm_cod M_Slave_doWrite) 52 = .ok (.aload_n 1, 1) := dt_Slave_doWrite_c1 4
theorem d_Slave_doWrite_53 : decode (jm_cod M_Slave_doWrite) 53 = .ok (.invokevirtual 198, 3) := dt_Slave_doWrite_c1 5
theorem d_Slave_doWrite_56 : decode (jm_cod M_Slave_doWrite) 56 = .ok (.ifCond .eq 11, 3) := dt_Slave_doWrite_c1 6
theorem d_Slave_doWrite_59 : decode (jm_cod M_Slave_doWrite) 59 = .ok (.aload_n 1, 1) := dt_Slave_doWrite_c1 7
theorem d_Slave_doWrite_60 : decode (jm_cod M_Slave_doWrite) 60 = .ok (.iconst 2, 1) := dt_Slave_doWrite_c1 8
theorem d_Slave_doWrite_61 : decode (jm_cod M_Slave_doWrite) 61 = .ok (.putfield 109, 3) := dt_Slave_doWrite_c1 9
theorem d_Slave_doWrite_64 : decode (jm_cod M_Slave_doWrite) 64 = .ok (.goto 25, 3) := dt_Slave_doWrite_c1 10
theorem d_Slave_doWrite_67 : decode (jm_cod M_Slave_doWrite) 67 = .ok (.iload_n 3, 1) := dt_Slave_doWrite_c1 11
theorem d_Slave_doWrite_68 : decode (jm_cod M_Slave_doWrite) 68 = .ok (.ifCond .eq 21, 3) := dt_Slave_doWrite_c1 12
theorem d_Slave_doWrite_71 : decode (jm_cod M_Slave_doWrite) 71 = .ok (.aload_n 0, 1) := dt_Slave_doWrite_c1 13
theorem d_Slave_doWrite_72 : decode (jm_cod M_Slave_doWrite) 72 = .ok (.aload_n 1, 1) := dt_Slave_doWrite_c1 14
theorem d_Slave_doWrite_73 : decode (jm_cod M_Slave_doWrite) 73 = .ok (.invokevirtual 202, 3) := dt_Slave_doWrite_c1 15
theorem d_Slave_doWrite_76 : decode (jm_cod M_Slave_doWrite) 76 = .ok (.aload_n 1, 1) := dt_Slave_doWrite_c1 16
theorem d_Slave_doWrite_77 : decode (jm_cod M_Slave_doWrite) 77 = .ok (.iload_n 2, 1) := dt_Slave_doWrite_c1 17
theorem d_Slave_doWrite_78 : decode (jm_cod M_Slave_doWrite) 78 = .ok (.ifCond .eq 7, 3) := dt_Slave_doWrite_c1 18
theorem d_Slave_doWrite_81 : decode (jm_cod M_Slave_doWrite) 81 = .ok (.iconst 1, 1) := dt_Slave_doWrite_c1 19
theorem d_Slave_doWrite_82 : decode (jm_cod M_Slave_doWrite) 82 = .ok (.goto 4, 3) := dt_Slave_doWrite_c1 20
theorem d_Slave_doWrite_85 : decode (jm_cod M_Slave_doWrite) 85 = .ok (.iconst 0, 1) := dt_Slave_doWrite_c1 21
theorem d_Slave_doWrite_86 : decode (jm_cod M_Slave_doWrite) 86 = .ok (.putfield 109, 3) := dt_Slave_doWrite_c1 22
theorem d_Slave_doWrite_89 : decode (jm_cod M_Slave_doWrite) 89 = .ok (.return_, 1) := dt_Slave_doWrite_c1 23
def tab_Slave_hasRight_c0 : List (Nat × Instr × Nat) := [(0, .lload_n 1, 1), (1, .invokestatic 105, 3), (4, .istore_n 3, 1), (5, .aload_n 0, 1), (6, .getfield 27, 3), (9, .iload_n 3, 1), (10, .iaload, 1), (11, .lload_n 1, 1), (12, .invokestatic 205, 3), (15, .if_icmp .ne 20, 3), (18, .aload_n 0, 1), (19, .getfield 30, 3), (22, .iload_n 3, 1), (23, .iaload, 1), (24, .lload_n 1, 1), (25, .invokestatic 208, 3), (28, .if_icmp .ne 7, 3), (31, .iconst 1, 1), (32, .goto 4, 3), (35, .iconst 0, 1), (36, .ireturn, 1)]
theorem dt_Slave_hasRight_c0 (i : Nat) : decode (jm_cod M_Slave_hasRight) (tab_Slave_hasRight_c0.getD i (0, .lload_n 1, 1)).1 = .ok ((tab_Slave_hasRight_c0.getD i (0, .lload_n 1, 1)).2.1, (tab_Slave_hasRight_c0.getD i (0, .lload_n 1, 1)).2.2) := j_tab (by decide +kernel) i
theorem d_Slave_hasRight_0 : decode (jm_cod M_Slave_hasRight) 0 = .ok (.lload_n 1, 1) := dt_Slave_hasRight_c0 0
theorem d_Slave_hasRight_1 : decode (jm_cod M_Slave_hasRight) 1 = .ok (.invokestatic 105, 3) := dt_Slave_hasRight_c0 1
theorem d_Slave_hasRight_4 : decode (jm_cod M_Slave_hasRight) 4 = .ok (.istore_n 3, 1) := dt_Slave_hasRight_c0 2
theorem d_Slave_hasRight_5 : decode (jm_cod M_Slave_hasRight) 5 = .ok (.aload_n 0, 1) := dt_Slave_hasRight_c0 3
theorem d_Slave_hasRight_6 : decode (jm_cod M_Slave_hasRight) 6 = .ok (.getfield 27, 3) := dt_Slave_hasRight_c0 4
theorem d_Slave_hasRight_9 : decode (jm_cod M_Slave_hasRight) 9 = .ok (.iload_n 3, 1) := dt_Slave_hasRight_c0 5
theorem d_Slave_hasRight_10 : decode (jm_cod M_Slave_hasRight) 10 = .ok (.iaload, 1) := dt_Slave_hasRight_c0 6
theorem d_Slave_hasRight_11 : decode (jm_cod M_Slave_hasRight) 11 = .ok (.lload_n 1, 1) := dt_Slave_hasRight_c0 7
theorem d_Slave_hasRight_12 : decode (jm_cod M_Slave_hasRight) 12 = .ok (.invokestatic 205, 3) := dt_Slave_hasRight_c0 8
theorem d_Slave_hasRight_15 : decode (jm_cod M_Slave_hasRight) 15 = .ok (.if_icmp .ne 20, 3) := dt_Slave_hasRight_c0 9
theorem d_Slave_hasRight_18 : decode (jm_cod M_Slave_hasRight) 18 = .ok (.aload_n 0, 1) := dt_Slave_hasRight_c0 10
theorem d_Slave_hasRight_19 : decode (jm_cod M_Slave_hasRight) 19 = .ok (.getfield 30, 3) := dt_Slave_hasRight_c0 11
theorem d_Slave_hasRight_22 : decode (jm_cod M_Slave_hasRight) 22 = .ok (.iload_n 3, 1) := dt_Slave_hasRight_c0 12
theorem d_Slave_hasRight_23 : decode (jm_cod M_Slave_hasRight) 23 = .ok (.iaload, 1) := dt_Slave_hasRight_c0 13
theorem d_Slave_hasRight_24 : decode (jm_cod M_Slave_hasRight) 24 = .ok (.lload_n 1, 1) := dt_Slave_hasRight_c0 14
theorem d_Slave_hasRight_25 : decode (jm_cod M_Slave_hasRight) 25 = .ok (.invokestatic 208, 3) := dt_Slave_hasRight_c0 15
theorem d_Slave_hasRight_28 : decode (jm_cod M_Slave_hasRight) 28 = .ok (.if_icmp .ne 7, 3) := dt_Slave_hasRight_c0 16
theorem d_Slave_hasRight_31 : decode (jm_cod M_Slave_hasRight) 31 = .ok (.iconst 1, 1) := dt_Slave_hasRight_c0 17
theorem d_Slave_hasRight_32 : decode (jm_cod M_Slave_hasRight) 32 = .ok (.goto 4, 3) := dt_Slave_hasRight_c0 18
theorem d_Slave_hasRight_35 : decode (jm_cod M_Slave_hasRight) 35 = .ok (.iconst 0, 1) := dt_Slave_hasRight_c0 19
theorem d_Slave_hasRight_36 : decode (jm_cod M_Slave_hasRight) 36 = .ok (.ireturn, 1) := dt_Slave_hasRight_c0 20
def tab_Slave_rangeOf_c0 : List (Nat × Instr × Nat) := [(0, .lload_n 0, 1), (1, .invokestatic 180, 3), (4, .lload_n 0, 1), (5, .invokestatic 211, 3), (8, .imul, 1), (9, .ireturn, 1)]
theorem dt_Slave_rangeOf_c0 (i : Nat) : decode (jm_cod M_Slave_rangeOf) (tab_Slave_rangeOf_c0.getD i (0, .lload_n 0, 1)).1 = .ok ((tab_Slave_rangeOf_c0.getD i (0, .lload_n 0, 1)).2.1, (tab_Slave_rangeOf_c0.getD i (0, .lload_n 0, 1)).2.2) := j_tab (by decide +kernel) i
theorem d_Slave_rangeOf_0 : decode (jm_cod M_Slave_rangeOf) 0 = .ok (.lload_n 0, 1) := dt_Slave_rangeOf_c0 0
theorem d_Slave_rangeOf_1 : decode (jm_cod M_Slave_rangeOf) 1 = .ok (.invokestatic 180, 3) := dt_Slave_rangeOf_c0 1
theorem d_Slave_rangeOf_4 : decode (jm_cod M_Slave_rangeOf) 4 = .ok (.lload_n 0, 1) := dt_Slave_rangeOf_c0 2
theorem d_Slave_rangeOf_5 : decode (jm_cod M_Slave_rangeOf) 5 = .ok (.invokestatic 211, 3) := dt_Slave_rangeOf_c0 3
theorem d_Slave_rangeOf_8 : decode (jm_cod M_Slave_rangeOf) 8 = .ok (.imul, 1) := dt_Slave_rangeOf_c0 4
theorem d_Slave_rangeOf_9 : decode (jm_cod M_Slave_rangeOf) 9 = .ok (.ireturn, 1) := dt_Slave_rangeOf_c0 5
def tab_Slave_writesSpoilt_c0 : List (Nat × Instr × Nat) := [(0, .iconst 0, 1), (1, .istore_n 2, 1), (2, .iload_n 2, 1), (3, .aload_n 1, 1), (4, .getfield 120, 3), (7, .if_icmp .ge 39, 3), (10, .aload_n 0, 1), (11, .getfield 43, 3), (14, .aload_n 1, 1), (15, .getfield 99, 3), (18, .iload_n 2, 1), (19, .invokestatic 214, 3), (22, .aload_n 1, 1), (23, .getfield 127, 3), (26, .iload_n 2, 1), (27, .iaload, 1), (28, .sipush 255, 3), (31, .iand, 1), (32, .invokevirtual 218, 3), (35, .ifCond .eq 5, 3), (38, .iconst 1, 1), (39, .ireturn, 1), (40, .iinc 2 1, 3), (43, .goto (-41), 3)]
theorem dt_Slave_writesSpoilt_c0 (i : Nat) : decode (jm_cod M_Slave_writesSpoilt) (tab_Slave_writesSpoilt_c0.getD i (0, .iconst 0, 1)).1 = .ok ((tab_Slave_writesSpoilt_c0.getD i (0, .iconst 0, 1)).2.1, (tab_Slave_writesSpoilt_c0.getD i (0, .iconst 0, 1)).2.2) := j_tab (by decide +kernel) i
theorem d_Slave_writesSpoilt_0 : decode (jm_cod M_Slave_writesSpoilt) 0 = .ok (.iconst 0, 1) := dt_Slave_writesSpoilt_c0 0
theorem d_Slave_writesSpoilt_1 : decode (jm_cod M_Slave_writesSpoilt) 1 = .ok (.istore_n 2, 1) := dt_Slave_writesSpoilt_c0 1
theorem d_Slave_writesSpoilt_2 : decode (jm_cod M_Slave_writesSpoilt) 2 = .ok (.iload_n 2, 1) := dt_Slave_writesSpoilt_c0 2
theorem d_Slave_writesSpoilt_3 : decode (jm_cod M_Slave_writesSpoilt) 3 = .ok (.aload_n 1, 1) := dt_Slave_writesSpoilt_c0 3
theorem d_Slave_writesSpoilt_4 : decode (jm_cod M_Slave_writesSpoilt) 4 = .ok (.getfield 120, 3) := dt_Slave_writesSpoilt_c0 4
theorem d_Slave_writesSpoilt_7 : decode (jm_cod M_Slave_writesSpoilt) 7 = .ok (.if_icmp .ge 39, 3) := dt_Slave_writesSpoilt_c0 5
theorem d_Slave_writesSpoilt_10 : decode (jm_cod M_Slave_writesSpoilt) 10 = .ok (.aload_n 0, 1) := dt_Slave_writesSpoilt_c0 6
theorem d_Slave_writesSpoilt_11 : decode (jm_cod M_Slave_writesSpoilt) 11 = .ok (.getfield 43, 3) := dt_Slave_writesSpoilt_c0 7
theorem d_Slave_writesSpoilt_14 : decode (jm_cod M_Slave_writesSpoilt) 14 = .ok (.aload_n 1, 1) := dt_Slave_writesSpoilt_c0 8
theorem d_Slave_writesSpoilt_15 : decode (jm_cod M_Slave_writesSpoilt) 15 = .ok (.getfield 99, 3) := dt_Slave_writesSpoilt_c0 9
theorem d_Slave_writesSpoilt_18 : decode (jm_cod M_Slave_writesSpoilt) 18 = .ok (.iload_n 2, 1) := dt_Slave_writesSpoilt_c0 10
theorem d_Slave_writesSpoilt_19 : decode (jm_cod M_Slave_writesSpoilt) 19 = .ok (.invokestatic 214, 3) := dt_Slave_writesSpoilt_c0 11
theorem d_Slave_writesSpoilt_22 : decode (jm_cod M_Slave_writesSpoilt) 22 = .ok (.aload_n 1, 1) := dt_Slave_writesSpoilt_c0 12
theorem d_Slave_writesSpoilt_23 : decode (jm_cod M_Slave_writesSpoilt) 23 = .ok (.getfield 127, 3) := dt_Slave_writesSpoilt_c0 13
theorem d_Slave_writesSpoilt_26 : decode (jm_cod M_Slave_writesSpoilt) 26 = .ok (.iload_n 2, 1) := dt_Slave_writesSpoilt_c0 14
theorem d_Slave_writesSpoilt_27 : decode (jm_cod M_Slave_writesSpoilt) 27 = .ok (.iaload, 1) := dt_Slave_writesSpoilt_c0 15
theorem d_Slave_writesSpoilt_28 : decode (jm_cod M_Slave_writesSpoilt) 28 = .ok (.sipush 255, 3) := dt_Slave_writesSpoilt_c0 16
theorem d_Slave_writesSpoilt_31 : decode (jm_cod M_Slave_writesSpoilt) 31 = .ok (.iand, 1) := dt_Slave_writesSpoilt_c0 17
theorem d_Slave_writesSpoilt_32 : decode (jm_cod M_Slave_writesSpoilt) 32 = .ok (.invokevirtual 218, 3) := dt_Slave_writesSpoilt_c0 18
theorem d_Slave_writesSpoilt_35 : decode (jm_cod M_Slave_writesSpoilt) 35 = .ok (.ifCond .eq 5, 3) := dt_Slave_writesSpoilt_c0 19
theorem d_Slave_writesSpoilt_38 : decode (jm_cod M_Slave_writesSpoilt) 38 = .ok (.iconst 1, 1) := dt_Slave_writesSpoilt_c0 20
theorem d_Slave_writesSpoilt_39 : decode (jm_cod M_Slave_writesSpoilt) 39 = .ok (.ireturn, 1) := dt_Slave_writesSpoilt_c0 21
theorem d_Slave_writesSpoilt_40 : decode (jm_cod M_Slave_writesSpoilt) 40 = .ok (.iinc 2 1, 3) := dt_Slave_writesSpoilt_c0 22
theorem d_Slave_writesSpoilt_43 : decode (jm_cod M_Slave_writesSpoilt) 43 = .ok (.goto (-41), 3) := dt_Slave_writesSpoilt_c0 23
def tab_Slave_writesSpoilt_c1 : List (Nat × Instr × Nat) := [(46, .iconst 0, 1), (47, .ireturn, 1)]
theorem dt_Slave_writesSpoilt_c1 (i : Nat) : decode (jm_cod M_Slave_writesSpoilt) (tab_Slave_writesSpoilt_c1.getD i (46, .iconst 0, 1)).1 = .ok ((tab_Slave_writesSpoilt_c1.getD i (46, .iconst 0, 1)).2.1, (tab_Slave_writesSpoilt_c1.getD i (46, .iconst 0, 1)).2.2) := j_tab (by decide +kernel) i
theorem d_Slave_writesSpoilt_46 : decode (jm_cod M_Slave_writesSpoilt) 46 = .ok (.iconst 0, 1) := dt_Slave_writesSpoilt_c1 0
theorem d_Slave_writesSpoilt_47 : decode (jm_cod M_Slave_writesSpoilt) 47 = .ok (.ireturn, 1) := dt_Slave_writesSpoilt_c1 1
def tab_Slave_storeBeats_c0 : List (Nat × Instr × Nat) := [(0, .iconst 0, 1), (1, .istore_n 2, 1), (2, .iload_n 2, 1), (3, .aload_n 1, 1), (4, .getfield 120, 3), (7, .if_icmp .ge 56, 3), (10, .aload_n 1, 1), (11, .getfield 99, 3), (14, .iload_n 2, 1), (15, .invokestatic 214, 3), (18, .istore_n 3, 1), (19, .aload_n 1, 1), (20, .getfield 127, 3), (23, .iload_n 2, 1), (24, .iaload, 1), (25, .sipush 255, 3), (28, .iand, 1), (29, .istore 4, 2), (31, .aload_n 0, 1), (32, .getfield 43, 3), (35, .iload_n 3, 1), (36, .aload_n 1, 1), (37, .getfield 123, 3), (40, .iload_n 2, 1)]
theorem dt_Slave_storeBeats_c0 (i : Nat) : decode (jm_cod M_Slave_storeBeats) (tab_Slave_storeBeats_c0.getD i (0, .iconst 0, 1)).1 = .ok ((tab_Slave_storeBeats_c0.getD i (0, .iconst 0, 1)).2.1, (tab_Slave_storeBeats_c0.getD i (0, .iconst 0, 1)).2.2) := j_tab (by decide +kernel) i
theorem d_Slave_storeBeats_0 : decode (jm_cod M_Slave_storeBeats) 0 = .ok (.iconst 0, 1) := dt_Slave_storeBeats_c0 0
theorem d_Slave_storeBeats_1 : decode (jm_cod M_Slave_storeBeats) 1 = .ok (.istore_n 2, 1) := dt_Slave_storeBeats_c0 1
theorem d_Slave_storeBeats_2 : decode (jm_cod M_Slave_storeBeats) 2 = .ok (.iload_n 2, 1) := dt_Slave_storeBeats_c0 2
theorem d_Slave_storeBeats_3 : decode (jm_cod M_Slave_storeBeats) 3 = .ok (.aload_n 1, 1) := dt_Slave_storeBeats_c0 3
theorem d_Slave_storeBeats_4 : decode (jm_cod M_Slave_storeBeats) 4 = .ok (.getfield 120, 3) := dt_Slave_storeBeats_c0 4
theorem d_Slave_storeBeats_7 : decode (jm_cod M_Slave_storeBeats) 7 = .ok (.if_icmp .ge 56, 3) := dt_Slave_storeBeats_c0 5
theorem d_Slave_storeBeats_10 : decode (jm_cod M_Slave_storeBeats) 10 = .ok (.aload_n 1, 1) := dt_Slave_storeBeats_c0 6
theorem d_Slave_storeBeats_11 : decode (jm_cod M_Slave_storeBeats) 11 = .ok (.getfield 99, 3) := dt_Slave_storeBeats_c0 7
theorem d_Slave_storeBeats_14 : decode (jm_cod M_Slave_storeBeats) 14 = .ok (.iload_n 2, 1) := dt_Slave_storeBeats_c0 8
theorem d_Slave_storeBeats_15 : decode (jm_cod M_Slave_storeBeats) 15 = .ok (.invokestatic 214, 3) := dt_Slave_storeBeats_c0 9
theorem d_Slave_storeBeats_18 : decode (jm_cod M_Slave_storeBeats) 18 = .ok (.istore_n 3, 1) := dt_Slave_storeBeats_c0 10
theorem d_Slave_storeBeats_19 : decode (jm_cod M_Slave_storeBeats) 19 = .ok (.aload_n 1, 1) := dt_Slave_storeBeats_c0 11
theorem d_Slave_storeBeats_20 : decode (jm_cod M_Slave_storeBeats) 20 = .ok (.getfield 127, 3) := dt_Slave_storeBeats_c0 12
theorem d_Slave_storeBeats_23 : decode (jm_cod M_Slave_storeBeats) 23 = .ok (.iload_n 2, 1) := dt_Slave_storeBeats_c0 13
theorem d_Slave_storeBeats_24 : decode (jm_cod M_Slave_storeBeats) 24 = .ok (.iaload, 1) := dt_Slave_storeBeats_c0 14
theorem d_Slave_storeBeats_25 : decode (jm_cod M_Slave_storeBeats) 25 = .ok (.sipush 255, 3) := dt_Slave_storeBeats_c0 15
theorem d_Slave_storeBeats_28 : decode (jm_cod M_Slave_storeBeats) 28 = .ok (.iand, 1) := dt_Slave_storeBeats_c0 16
theorem d_Slave_storeBeats_29 : decode (jm_cod M_Slave_storeBeats) 29 = .ok (.istore 4, 2) := dt_Slave_storeBeats_c0 17
theorem d_Slave_storeBeats_31 : decode (jm_cod M_Slave_storeBeats) 31 = .ok (.aload_n 0, 1) := dt_Slave_storeBeats_c0 18
theorem d_Slave_storeBeats_32 : decode (jm_cod M_Slave_storeBeats) 32 = .ok (.getfield 43, 3) := dt_Slave_storeBeats_c0 19
theorem d_Slave_storeBeats_35 : decode (jm_cod M_Slave_storeBeats) 35 = .ok (.iload_n 3, 1) := dt_Slave_storeBeats_c0 20
theorem d_Slave_storeBeats_36 : decode (jm_cod M_Slave_storeBeats) 36 = .ok (.aload_n 1, 1) := dt_Slave_storeBeats_c0 21
theorem d_Slave_storeBeats_37 : decode (jm_cod M_Slave_storeBeats) 37 = .ok (.getfield 123, 3) := dt_Slave_storeBeats_c0 22
theorem d_Slave_storeBeats_40 : decode (jm_cod M_Slave_storeBeats) 40 = .ok (.iload_n 2, 1) := dt_Slave_storeBeats_c0 23
def tab_Slave_storeBeats_c1 : List (Nat × Instr × Nat) := [(41, .laload, 1), (42, .iload 4, 2), (44, .invokevirtual 223, 3), (47, .aload_n 0, 1), (48, .iload_n 3, 1), (49, .bipush (-8), 2), (51, .iand, 1), (52, .iload 4, 2), (54, .invokevirtual 226, 3), (57, .iinc 2 1, 3), (60, .goto (-58), 3), (63, .return_, 1)]
theorem dt_Slave_storeBeats_c1 (i : Nat) : decode (jm_cod M_Slave_storeBeats) (tab_Slave_storeBeats_c1.getD i (41, .laload, 1)).1 = .ok ((tab_Slave_storeBeats_c1.getD i (41, .laload, 1)).2.1, (tab_Slave_storeBeats_c1.getD i (41, .laload, 1)).2.2) := j_tab (by decide +kernel) i
theorem d_Slave_storeBeats_41 : decode (jm_cod M_Slave_storeBeats) 41 = .ok (.laload, 1) := dt_Slave_storeBeats_c1 0
theorem d_Slave_storeBeats_42 : decode (jm_cod M_Slave_storeBeats) 42 = .ok (.iload 4, 2) := dt_Slave_storeBeats_c1 1
theorem d_Slave_storeBeats_44 : decode (jm_cod M_Slave_storeBeats) 44 = .ok (.invokevirtual 223, 3) := dt_Slave_storeBeats_c1 2
theorem d_Slave_storeBeats_47 : decode (jm_cod M_Slave_storeBeats) 47 = .ok (.aload_n 0, 1) := dt_Slave_storeBeats_c1 3
theorem d_Slave_storeBeats_48 : decode (jm_cod M_Slave_storeBeats) 48 = .ok (.iload_n 3, 1) := dt_Slave_storeBeats_c1 4
theorem d_Slave_storeBeats_49 : decode (jm_cod M_Slave_storeBeats) 49 = .ok (.bipush (-8), 2) := dt_Slave_storeBeats_c1 5
theorem d_Slave_storeBeats_51 : decode (jm_cod M_Slave_storeBeats) 51 = .ok (.iand, 1) := dt_Slave_storeBeats_c1 6
theorem d_Slave_storeBeats_52 : decode (jm_cod M_Slave_storeBeats) 52 = .ok (.iload 4, 2) := dt_Slave_storeBeats_c1 7
theorem d_Slave_storeBeats_54 : decode (jm_cod M_Slave_storeBeats) 54 = .ok (.invokevirtual 226, 3) := dt_Slave_storeBeats_c1 8
theorem d_Slave_storeBeats_57 : decode (jm_cod M_Slave_storeBeats) 57 = .ok (.iinc 2 1, 3) := dt_Slave_storeBeats_c1 9
theorem d_Slave_storeBeats_60 : decode (jm_cod M_Slave_storeBeats) 60 = .ok (.goto (-58), 3) := dt_Slave_storeBeats_c1 10
theorem d_Slave_storeBeats_63 : decode (jm_cod M_Slave_storeBeats) 63 = .ok (.return_, 1) := dt_Slave_storeBeats_c1 11
def tab_Slave_takeRights_c0 : List (Nat × Instr × Nat) := [(0, .iconst 0, 1), (1, .istore_n 3, 1), (2, .iload_n 3, 1), (3, .bipush 64, 2), (5, .if_icmp .ge 36, 3), (8, .aload_n 0, 1), (9, .getfield 27, 3), (12, .iload_n 3, 1), (13, .iaload, 1), (14, .iconst (-1), 1), (15, .if_icmp .eq 20, 3), (18, .aload_n 0, 1), (19, .iload_n 3, 1), (20, .iload_n 1, 1), (21, .iload_n 2, 1), (22, .invokevirtual 230, 3), (25, .ifCond .eq 10, 3), (28, .aload_n 0, 1), (29, .getfield 27, 3), (32, .iload_n 3, 1), (33, .iconst (-1), 1), (34, .iastore, 1), (35, .iinc 3 1, 3), (38, .goto (-36), 3)]
theorem dt_Slave_takeRights_c0 (i : Nat) : decode (jm_cod M_Slave_takeRights) (tab_Slave_takeRights_c0.getD i (0, .iconst 0, 1)).1 = .ok ((tab_Slave_takeRights_c0.getD i (0, .iconst 0, 1)).2.1, (tab_Slave_takeRights_c0.getD i (0, .iconst 0, 1)).2.2) := j_tab (by decide +kernel) i
theorem d_Slave_takeRights_0 : decode (jm_cod M_Slave_takeRights) 0 = .ok (.iconst 0, 1) := dt_Slave_takeRights_c0 0
theorem d_Slave_takeRights_1 : decode (jm_cod M_Slave_takeRights) 1 = .ok (.istore_n 3, 1) := dt_Slave_takeRights_c0 1
theorem d_Slave_takeRights_2 : decode (jm_cod M_Slave_takeRights) 2 = .ok (.iload_n 3, 1) := dt_Slave_takeRights_c0 2
theorem d_Slave_takeRights_3 : decode (jm_cod M_Slave_takeRights) 3 = .ok (.bipush 64, 2) := dt_Slave_takeRights_c0 3
theorem d_Slave_takeRights_5 : decode (jm_cod M_Slave_takeRights) 5 = .ok (.if_icmp .ge 36, 3) := dt_Slave_takeRights_c0 4
theorem d_Slave_takeRights_8 : decode (jm_cod M_Slave_takeRights) 8 = .ok (.aload_n 0, 1) := dt_Slave_takeRights_c0 5
theorem d_Slave_takeRights_9 : decode (jm_cod M_Slave_takeRights) 9 = .ok (.getfield 27, 3) := dt_Slave_takeRights_c0 6
theorem d_Slave_takeRights_12 : decode (jm_cod M_Slave_takeRights) 12 = .ok (.iload_n 3, 1) := dt_Slave_takeRights_c0 7
theorem d_Slave_takeRights_13 : decode (jm_cod M_Slave_takeRights) 13 = .ok (.iaload, 1) := dt_Slave_takeRights_c0 8
theorem d_Slave_takeRights_14 : decode (jm_cod M_Slave_takeRights) 14 = .ok (.iconst (-1), 1) := dt_Slave_takeRights_c0 9
theorem d_Slave_takeRights_15 : decode (jm_cod M_Slave_takeRights) 15 = .ok (.if_icmp .eq 20, 3) := dt_Slave_takeRights_c0 10
theorem d_Slave_takeRights_18 : decode (jm_cod M_Slave_takeRights) 18 = .ok (.aload_n 0, 1) := dt_Slave_takeRights_c0 11
theorem d_Slave_takeRights_19 : decode (jm_cod M_Slave_takeRights) 19 = .ok (.iload_n 3, 1) := dt_Slave_takeRights_c0 12
theorem d_Slave_takeRights_20 : decode (jm_cod M_Slave_takeRights) 20 = .ok (.iload_n 1, 1) := dt_Slave_takeRights_c0 13
theorem d_Slave_takeRights_21 : decode (jm_cod M_Slave_takeRights) 21 = .ok (.iload_n 2, 1) := dt_Slave_takeRights_c0 14
theorem d_Slave_takeRights_22 : decode (jm_cod M_Slave_takeRights) 22 = .ok (.invokevirtual 230, 3) := dt_Slave_takeRights_c0 15
theorem d_Slave_takeRights_25 : decode (jm_cod M_Slave_takeRights) 25 = .ok (.ifCond .eq 10, 3) := dt_Slave_takeRights_c0 16
theorem d_Slave_takeRights_28 : decode (jm_cod M_Slave_takeRights) 28 = .ok (.aload_n 0, 1) := dt_Slave_takeRights_c0 17
theorem d_Slave_takeRights_29 : decode (jm_cod M_Slave_takeRights) 29 = .ok (.getfield 27, 3) := dt_Slave_takeRights_c0 18
theorem d_Slave_takeRights_32 : decode (jm_cod M_Slave_takeRights) 32 = .ok (.iload_n 3, 1) := dt_Slave_takeRights_c0 19
theorem d_Slave_takeRights_33 : decode (jm_cod M_Slave_takeRights) 33 = .ok (.iconst (-1), 1) := dt_Slave_takeRights_c0 20
theorem d_Slave_takeRights_34 : decode (jm_cod M_Slave_takeRights) 34 = .ok (.iastore, 1) := dt_Slave_takeRights_c0 21
theorem d_Slave_takeRights_35 : decode (jm_cod M_Slave_takeRights) 35 = .ok (.iinc 3 1, 3) := dt_Slave_takeRights_c0 22
theorem d_Slave_takeRights_38 : decode (jm_cod M_Slave_takeRights) 38 = .ok (.goto (-36), 3) := dt_Slave_takeRights_c0 23
def tab_Slave_takeRights_c1 : List (Nat × Instr × Nat) := [(41, .return_, 1)]
theorem dt_Slave_takeRights_c1 (i : Nat) : decode (jm_cod M_Slave_takeRights) (tab_Slave_takeRights_c1.getD i (41, .return_, 1)).1 = .ok ((tab_Slave_takeRights_c1.getD i (41, .return_, 1)).2.1, (tab_Slave_takeRights_c1.getD i (41, .return_, 1)).2.2) := j_tab (by decide +kernel) i
theorem d_Slave_takeRights_41 : decode (jm_cod M_Slave_takeRights) 41 = .ok (.return_, 1) := dt_Slave_takeRights_c1 0
def tab_Slave_meetsRight_c0 : List (Nat × Instr × Nat) := [(0, .iconst 0, 1), (1, .istore 4, 2), (3, .iload 4, 2), (5, .bipush 8, 2), (7, .if_icmp .ge 50, 3), (10, .iload_n 2, 1), (11, .iload 4, 2), (13, .iadd, 1), (14, .aload_n 0, 1), (15, .getfield 27, 3), (18, .iload_n 1, 1), (19, .iaload, 1), (20, .isub, 1), (21, .istore 5, 2), (23, .iload_n 3, 1), (24, .iload 4, 2), (26, .ishr, 1), (27, .iconst 1, 1), (28, .iand, 1), (29, .iconst 1, 1), (30, .if_icmp .ne 21, 3), (33, .iload 5, 2), (35, .ifCond .lt 16, 3), (38, .iload 5, 2)]
theorem dt_Slave_meetsRight_c0 (i : Nat) : decode (jm_cod M_Slave_meetsRight) (tab_Slave_meetsRight_c0.getD i (0, .iconst 0, 1)).1 = .ok ((tab_Slave_meetsRight_c0.getD i (0, .iconst 0, 1)).2.1, (tab_Slave_meetsRight_c0.getD i (0, .iconst 0, 1)).2.2) := j_tab (by decide +kernel) i
theorem d_Slave_meetsRight_0 : decode (jm_cod M_Slave_meetsRight) 0 = .ok (.iconst 0, 1) := dt_Slave_meetsRight_c0 0
theorem d_Slave_meetsRight_1 : decode (jm_cod M_Slave_meetsRight) 1 = .ok (.istore 4, 2) := dt_Slave_meetsRight_c0 1
theorem d_Slave_meetsRight_3 : decode (jm_cod M_Slave_meetsRight) 3 = .ok (.iload 4, 2) := dt_Slave_meetsRight_c0 2
theorem d_Slave_meetsRight_5 : decode (jm_cod M_Slave_meetsRight) 5 = .ok (.bipush 8, 2) := dt_Slave_meetsRight_c0 3
theorem d_Slave_meetsRight_7 : decode (jm_cod M_Slave_meetsRight) 7 = .ok (.if_icmp .ge 50, 3) := dt_Slave_meetsRight_c0 4
theorem d_Slave_meetsRight_10 : decode (jm_cod M_Slave_meetsRight) 10 = .ok (.iload_n 2, 1) := dt_Slave_meetsRight_c0 5
theorem d_Slave_meetsRight_11 : decode (jm_cod M_Slave_meetsRight) 11 = .ok (.iload 4, 2) := dt_Slave_meetsRight_c0 6
theorem d_Slave_meetsRight_13 : decode (jm_cod M_Slave_meetsRight) 13 = .ok (.iadd, 1) := dt_Slave_meetsRight_c0 7
theorem d_Slave_meetsRight_14 : decode (jm_cod M_Slave_meetsRight) 14 = .ok (.aload_n 0, 1) := dt_Slave_meetsRight_c0 8
theorem d_Slave_meetsRight_15 : decode (jm_cod M_Slave_meetsRight) 15 = .ok (.getfield 27, 3) := dt_Slave_meetsRight_c0 9
theorem d_Slave_meetsRight_18 : decode (jm_cod M_Slave_meetsRight) 18 = .ok (.iload_n 1, 1) := dt_Slave_meetsRight_c0 10
theorem d_Slave_meetsRight_19 : decode (jm_cod M_Slave_meetsRight) 19 = .ok (.iaload, 1) := dt_Slave_meetsRight_c0 11
theorem d_Slave_meetsRight_20 : decode (jm_cod M_Slave_meetsRight) 20 = .ok (.isub, 1) := dt_Slave_meetsRight_c0 12
theorem d_Slave_meetsRight_21 : decode (jm_cod M_Slave_meetsRight) 21 = .ok (.istore 5, 2) := dt_Slave_meetsRight_c0 13
theorem d_Slave_meetsRight_23 : decode (jm_cod M_Slave_meetsRight) 23 = .ok (.iload_n 3, 1) := dt_Slave_meetsRight_c0 14
theorem d_Slave_meetsRight_24 : decode (jm_cod M_Slave_meetsRight) 24 = .ok (.iload 4, 2) := dt_Slave_meetsRight_c0 15
theorem d_Slave_meetsRight_26 : decode (jm_cod M_Slave_meetsRight) 26 = .ok (.ishr, 1) := dt_Slave_meetsRight_c0 16
theorem d_Slave_meetsRight_27 : decode (jm_cod M_Slave_meetsRight) 27 = .ok (.iconst 1, 1) := dt_Slave_meetsRight_c0 17
theorem d_Slave_meetsRight_28 : decode (jm_cod M_Slave_meetsRight) 28 = .ok (.iand, 1) := dt_Slave_meetsRight_c0 18
theorem d_Slave_meetsRight_29 : decode (jm_cod M_Slave_meetsRight) 29 = .ok (.iconst 1, 1) := dt_Slave_meetsRight_c0 19
theorem d_Slave_meetsRight_30 : decode (jm_cod M_Slave_meetsRight) 30 = .ok (.if_icmp .ne 21, 3) := dt_Slave_meetsRight_c0 20
theorem d_Slave_meetsRight_33 : decode (jm_cod M_Slave_meetsRight) 33 = .ok (.iload 5, 2) := dt_Slave_meetsRight_c0 21
theorem d_Slave_meetsRight_35 : decode (jm_cod M_Slave_meetsRight) 35 = .ok (.ifCond .lt 16, 3) := dt_Slave_meetsRight_c0 22
theorem d_Slave_meetsRight_38 : decode (jm_cod M_Slave_meetsRight) 38 = .ok (.iload 5, 2) := dt_Slave_meetsRight_c0 23
def tab_Slave_meetsRight_c1 : List (Nat × Instr × Nat) := [(40, .aload_n 0, 1), (41, .getfield 30, 3), (44, .iload_n 1, 1), (45, .iaload, 1), (46, .if_icmp .ge 5, 3), (49, .iconst 1, 1), (50, .ireturn, 1), (51, .iinc 4 1, 3), (54, .goto (-51), 3), (57, .iconst 0, 1), (58, .ireturn, 1)]
theorem dt_Slave_meetsRight_c1 (i : Nat) : decode (jm_cod M_Slave_meetsRight) (tab_Slave_meetsRight_c1.getD i (40, .aload_n 0, 1)).1 = .ok ((tab_Slave_meetsRight_c1.getD i (40, .aload_n 0, 1)).2.1, (tab_Slave_meetsRight_c1.getD i (40, .aload_n 0, 1)).2.2) := j_tab (by decide +kernel) i
theorem d_Slave_meetsRight_40 : decode (jm_cod M_Slave_meetsRight) 40 = .ok (.aload_n 0, 1) := dt_Slave_meetsRight_c1 0
theorem d_Slave_meetsRight_41 : decode (jm_cod M_Slave_meetsRight) 41 = .ok (.getfield 30, 3) := dt_Slave_meetsRight_c1 1
theorem d_Slave_meetsRight_44 : decode (jm_cod M_Slave_meetsRight) 44 = .ok (.iload_n 1, 1) := dt_Slave_meetsRight_c1 2
theorem d_Slave_meetsRight_45 : decode (jm_cod M_Slave_meetsRight) 45 = .ok (.iaload, 1) := dt_Slave_meetsRight_c1 3
theorem d_Slave_meetsRight_46 : decode (jm_cod M_Slave_meetsRight) 46 = .ok (.if_icmp .ge 5, 3) := dt_Slave_meetsRight_c1 4
theorem d_Slave_meetsRight_49 : decode (jm_cod M_Slave_meetsRight) 49 = .ok (.iconst 1, 1) := dt_Slave_meetsRight_c1 5
theorem d_Slave_meetsRight_50 : decode (jm_cod M_Slave_meetsRight) 50 = .ok (.ireturn, 1) := dt_Slave_meetsRight_c1 6
theorem d_Slave_meetsRight_51 : decode (jm_cod M_Slave_meetsRight) 51 = .ok (.iinc 4 1, 3) := dt_Slave_meetsRight_c1 7
theorem d_Slave_meetsRight_54 : decode (jm_cod M_Slave_meetsRight) 54 = .ok (.goto (-51), 3) := dt_Slave_meetsRight_c1 8
theorem d_Slave_meetsRight_57 : decode (jm_cod M_Slave_meetsRight) 57 = .ok (.iconst 0, 1) := dt_Slave_meetsRight_c1 9
theorem d_Slave_meetsRight_58 : decode (jm_cod M_Slave_meetsRight) 58 = .ok (.ireturn, 1) := dt_Slave_meetsRight_c1 10
def tab_Slave_doRead_c0 : List (Nat × Instr × Nat) := [(0, .aload_n 1, 1), (1, .ifnonnull 4, 3), (4, .return_, 1), (5, .aload_n 1, 1), (6, .iload_n 2, 1), (7, .putfield 149, 3), (10, .aload_n 1, 1), (11, .getfield 99, 3), (14, .invokestatic 180, 3), (17, .istore_n 3, 1), (18, .aload_n 1, 1), (19, .getfield 99, 3), (22, .invokestatic 105, 3), (25, .istore 4, 2), (27, .aload_n 1, 1), (28, .getfield 99, 3), (31, .invokestatic 191, 3), (34, .istore 5, 2), (36, .iconst 1, 1), (37, .istore 6, 2), (39, .iconst 0, 1), (40, .istore 7, 2), (42, .iload 7, 2), (44, .iload_n 3, 1)]
theorem dt_Slave_doRead_c0 (i : Nat) : decode (jm_cod M_Slave_doRead) (tab_Slave_doRead_c0.getD i (0, .aload_n 1, 1)).1 = .ok ((tab_Slave_doRead_c0.getD i (0, .aload_n 1, 1)).2.1, (tab_Slave_doRead_c0.getD i (0, .aload_n 1, 1)).2.2) := j_tab (by decide +kernel) i
theorem d_Slave_doRead_0 : decode (jm_cod M_Slave_doRead) 0 = .ok (.aload_n 1, 1) := dt_Slave_doRead_c0 0
theorem d_Slave_doRead_1 : decode (jm_cod M_Slave_doRead) 1 = .ok (.ifnonnull 4, 3) := dt_Slave_doRead_c0 1
theorem d_Slave_doRead_4 : decode (jm_cod M_Slave_doRead) 4 = .ok (.return_, 1) := dt_Slave_doRead_c0 2
theorem d_Slave_doRead_5 : decode (jm_cod M_Slave_doRead) 5 = .ok (.aload_n 1, 1) := dt_Slave_doRead_c0 3
theorem d_Slave_doRead_6 : decode (jm_cod M_Slave_doRead) 6 = .ok (.iload_n 2, 1) := dt_Slave_doRead_c0 4
theorem d_Slave_doRead_7 : decode (jm_cod M_Slave_doRead) 7 = .ok (.putfield 149, 3) := dt_Slave_doRead_c0 5
theorem d_Slave_doRead_10 : decode (jm_cod M_Slave_doRead) 10 = .ok (.aload_n 1, 1) := dt_Slave_doRead_c0 6
theorem d_Slave_doRead_11 : decode (jm_cod M_Slave_doRead) 11 = .ok (.getfield 99, 3) := dt_Slave_doRead_c0 7
theorem d_Slave_doRead_14 : decode (jm_cod M_Slave_doRead) 14 = .ok (.invokestatic 180, 3) := dt_Slave_doRead_c0 8
theorem d_Slave_doRead_17 : decode (jm_cod M_Slave_doRead) 17 = .ok (.istore_n 3, 1) := dt_Slave_doRead_c0 9
theorem d_Slave_doRead_18 : decode (jm_cod M_Slave_doRead) 18 = .ok (.aload_n 1, 1) := dt_Slave_doRead_c0 10
theorem d_Slave_doRead_19 : decode (jm_cod M_Slave_doRead) 19 = .ok (.getfield 99, 3) := dt_Slave_doRead_c0 11
theorem d_Slave_doRead_22 : decode (jm_cod M_Slave_doRead) 22 = .ok (.invokestatic 105, 3) := dt_Slave_doRead_c0 12
theorem d_Slave_doRead_25 : decode (jm_cod M_Slave_doRead) 25 = .ok (.istore 4, 2) := dt_Slave_doRead_c0 13
theorem d_Slave_doRead_27 : decode (jm_cod M_Slave_doRead) 27 = .ok (.aload_n 1, 1) := dt_Slave_doRead_c0 14
theorem d_Slave_doRead_28 : decode (jm_cod M_Slave_doRead) 28 = .ok (.getfield 99, 3) := dt_Slave_doRead_c0 15
theorem d_Slave_doRead_31 : decode (jm_cod M_Slave_doRead) 31 = .ok (.invokestatic 191, 3) := dt_Slave_doRead_c0 16
theorem d_Slave_doRead_34 : decode (jm_cod M_Slave_doRead) 34 = .ok (.istore 5, 2) := dt_Slave_doRead_c0 17
theorem d_Slave_doRead_36 : decode (jm_cod M_Slave_doRead) 36 = .ok (.iconst 1, 1) := dt_Slave_doRead_c0 18
theorem d_Slave_doRead_37 : decode (jm_cod M_Slave_doRead) 37 = .ok (.istore 6, 2) := dt_Slave_doRead_c0 19
theorem d_Slave_doRead_39 : decode (jm_cod M_Slave_doRead) 39 = .ok (.iconst 0, 1) := dt_Slave_doRead_c0 20
theorem d_Slave_doRead_40 : decode (jm_cod M_Slave_doRead) 40 = .ok (.istore 7, 2) := dt_Slave_doRead_c0 21
theorem d_Slave_doRead_42 : decode (jm_cod M_Slave_doRead) 42 = .ok (.iload 7, 2) := dt_Slave_doRead_c0 22
theorem d_Slave_doRead_44 : decode (jm_cod M_Slave_doRead) 44 = .ok (.iload_n 3, 1) := dt_Slave_doRead_c0 23
def tab_Slave_doRead_c1 : List (Nat × Instr × Nat) := [(45, .if_icmp .ge 136, 3), (48, .aload_n 1, 1), (49, .getfield 99, 3), (52, .iload 7, 2), (54, .invokestatic 214, 3), (57, .istore 8, 2), (59, .aload_n 1, 1), (60, .getfield 99, 3), (63, .iload 7, 2), (65, .invokestatic 234, 3), (68, .istore 9, 2), (70, .aload_n 0, 1), (71, .getfield 43, 3), (74, .iload 8, 2), (76, .iload 9, 2), (78, .invokevirtual 218, 3), (81, .istore 10, 2), (83, .iload 10, 2), (85, .ifCond .eq 7, 3), (88, .iconst 2, 1), (89, .goto 13, 3), (92, .iload 5, 2), (94, .ifCond .eq 7, 3), (97, .iconst 1, 1)]
theorem dt_Slave_doRead_c1 (i : Nat) : decode (jm_cod M_Slave_doRead) (tab_Slave_doRead_c1.getD i (45, .if_icmp .ge 136, 3)).1 = .ok ((tab_Slave_doRead_c1.getD i (45, .if_icmp .ge 136, 3)).2.1, (tab_Slave_doRead_c1.getD i (45, .if_icmp .ge 136, 3)).2.2) := j_tab (by decide +kernel) i
theorem d_Slave_doRead_45 : decode (jm_cod M_Slave_doRead) 45 = .ok (.if_icmp .ge 136, 3) := dt_Slave_doRead_c1 0
theorem d_Slave_doRead_48 : decode (jm_cod M_Slave_doRead) 48 = .ok (.aload_n 1, 1) := dt_Slave_doRead_c1 1
theorem d_Slave_doRead_49 : decode (jm_cod M_Slave_doRead) 49 = .ok (.getfield 99, 3) := dt_Slave_doRead_c1 2
theorem d_Slave_doRead_52 : decode (jm_cod M_Slave_doRead) 52 = .ok (.iload 7, 2) := dt_Slave_doRead_c1 3
theorem d_Slave_doRead_54 : decode (jm_cod M_Slave_doRead) 54 = .ok (.invokestatic 214, 3) := dt_Slave_doRead_c1 4
theorem d_Slave_doRead_57 : decode (jm_cod M_Slave_doRead) 57 = .ok (.istore 8, 2) := dt_Slave_doRead_c1 5
theorem d_Slave_doRead_59 : decode (jm_cod M_Slave_doRead) 59 = .ok (.aload_n 1, 1) := dt_Slave_doRead_c1 6
theorem d_Slave_doRead_60 : decode (jm_cod M_Slave_doRead) 60 = .ok (.getfield 99, 3) := dt_Slave_doRead_c1 7
theorem d_Slave_doRead_63 : decode (jm_cod M_Slave_doRead) 63 = .ok (.iload 7, 2) := dt_Slave_doRead_c1 8
theorem d_Slave_doRead_65 : decode (jm_cod M_Slave_doRead) 65 = .ok (.invokestatic 234, 3) := dt_Slave_doRead_c1 9
theorem d_Slave_doRead_68 : decode (jm_cod M_Slave_doRead) 68 = .ok (.istore 9, 2) := dt_Slave_doRead_c1 10
theorem d_Slave_doRead_70 : decode (jm_cod M_Slave_doRead) 70 = .ok (.aload_n 0, 1) := dt_Slave_doRead_c1 11
theorem d_Slave_doRead_71 : decode (jm_cod M_Slave_doRead) 71 = .ok (.getfield 43, 3) := dt_Slave_doRead_c1 12
theorem d_Slave_doRead_74 : decode (jm_cod M_Slave_doRead) 74 = .ok (.iload 8, 2) := dt_Slave_doRead_c1 13
theorem d_Slave_doRead_76 : decode (jm_cod M_Slave_doRead) 76 = .ok (.iload 9, 2) := dt_Slave_doRead_c1 14
theorem d_Slave_doRead_78 : decode (jm_cod M_Slave_doRead) 78 = .ok (.invokevirtual 218, 3) := dt_Slave_doRead_c1 15
theorem d_Slave_doRead_81 : decode (jm_cod M_Slave_doRead) 81 = .ok (.istore 10, 2) := dt_Slave_doRead_c1 16
theorem d_Slave_doRead_83 : decode (jm_cod M_Slave_doRead) 83 = .ok (.iload 10, 2) := dt_Slave_doRead_c1 17
theorem d_Slave_doRead_85 : decode (jm_cod M_Slave_doRead) 85 = .ok (.ifCond .eq 7, 3) := dt_Slave_doRead_c1 18
theorem d_Slave_doRead_88 : decode (jm_cod M_Slave_doRead) 88 = .ok (.iconst 2, 1) := dt_Slave_doRead_c1 19
theorem d_Slave_doRead_89 : decode (jm_cod M_Slave_doRead) 89 = .ok (.goto 13, 3) := dt_Slave_doRead_c1 20
theorem d_Slave_doRead_92 : decode (jm_cod M_Slave_doRead) 92 = .ok (.iload 5, 2) := dt_Slave_doRead_c1 21
theorem d_Slave_doRead_94 : decode (jm_cod M_Slave_doRead) 94 = .ok (.ifCond .eq 7, 3) := dt_Slave_doRead_c1 22
theorem d_Slave_doRead_97 : decode (jm_cod M_Slave_doRead) 97 = .ok (.iconst 1, 1) := dt_Slave_doRead_c1 23
def tab_Slave_doRead_c2 : List (Nat × Instr × Nat) := [(98, .goto 4, 3), (101, .iconst 0, 1), (102, .istore 11, 2), (104, .aload_n 1, 1), (105, .getfield 123, 3), (108, .iload 7, 2), (110, .iload 10, 2), (112, .ifCond .eq 7, 3), (115, .lconst 0, 1), (116, .goto 14, 3), (119, .aload_n 0, 1), (120, .getfield 43, 3), (123, .iload 8, 2), (125, .iload 9, 2), (127, .invokevirtual 237, 3), (130, .lastore, 1), (131, .aload_n 1, 1), (132, .getfield 127, 3), (135, .iload 7, 2), (137, .iload 4, 2), (139, .iload 11, 2), (141, .iload 7, 2), (143, .iload_n 3, 1), (144, .iconst 1, 1)]
theorem dt_Slave_doRead_c2 (i : Nat) : decode (jm_cod M_Slave_doRead) (tab_Slave_doRead_c2.getD i (98, .goto 4, 3)).1 = .ok ((tab_Slave_doRead_c2.getD i (98, .goto 4, 3)).2.1, (tab_Slave_doRead_c2.getD i (98, .goto 4, 3)).2.2) := j_tab (by decide +kernel) i
theorem d_Slave_doRead_98 : decode (jm_cod M_Slave_doRead) 98 = .ok (.goto 4, 3) := dt_Slave_doRead_c2 0
theorem d_Slave_doRead_101 : decode (jm_cod M_Slave_doRead) 101 = .ok (.iconst 0, 1) := dt_Slave_doRead_c2 1
theorem d_Slave_doRead_102 : decode (jm_cod M_Slave_doRead) 102 = .ok (.istore 11, 2) := dt_Slave_doRead_c2 2
theorem d_Slave_doRead_104 : decode (jm_cod M_Slave_doRead) 104 = .ok (.aload_n 1, 1) := dt_Slave_doRead_c2 3
theorem d_Slave_doRead_105 : decode (jm_cod M_Slave_doRead) 105 = .ok (.getfield 123, 3) := dt_Slave_doRead_c2 4
theorem d_Slave_doRead_108 : decode (jm_cod M_Slave_doRead) 108 = .ok (.iload 7, 2) := dt_Slave_doRead_c2 5
theorem d_Slave_doRead_110 : decode (jm_cod M_Slave_doRead) 110 = .ok (.iload 10, 2) := dt_Slave_doRead_c2 6
theorem d_Slave_doRead_112 : decode (jm_cod M_Slave_doRead) 112 = .ok (.ifCond .eq 7, 3) := dt_Slave_doRead_c2 7
theorem d_Slave_doRead_115 : decode (jm_cod M_Slave_doRead) 115 = .ok (.lconst 0, 1) := dt_Slave_doRead_c2 8
theorem d_Slave_doRead_116 : decode (jm_cod M_Slave_doRead) 116 = .ok (.goto 14, 3) := dt_Slave_doRead_c2 9
theorem d_Slave_doRead_119 : decode (jm_cod M_Slave_doRead) 119 = .ok (.aload_n 0, 1) := dt_Slave_doRead_c2 10
theorem d_Slave_doRead_120 : decode (jm_cod M_Slave_doRead) 120 = .ok (.getfield 43, 3) := dt_Slave_doRead_c2 11
theorem d_Slave_doRead_123 : decode (jm_cod M_Slave_doRead) 123 = .ok (.iload 8, 2) := dt_Slave_doRead_c2 12
theorem d_Slave_doRead_125 : decode (jm_cod M_Slave_doRead) 125 = .ok (.iload 9, 2) := dt_Slave_doRead_c2 13
theorem d_Slave_doRead_127 : decode (jm_cod M_Slave_doRead) 127 = .ok (.invokevirtual 237, 3) := dt_Slave_doRead_c2 14
theorem d_Slave_doRead_130 : decode (jm_cod M_Slave_doRead) 130 = .ok (.lastore, 1) := dt_Slave_doRead_c2 15
theorem d_Slave_doRead_131 : decode (jm_cod M_Slave_doRead) 131 = .ok (.aload_n 1, 1) := dt_Slave_doRead_c2 16
theorem d_Slave_doRead_132 : decode (jm_cod M_Slave_doRead) 132 = .ok (.getfield 127, 3) := dt_Slave_doRead_c2 17
theorem d_Slave_doRead_135 : decode (jm_cod M_Slave_doRead) 135 = .ok (.iload 7, 2) := dt_Slave_doRead_c2 18
theorem d_Slave_doRead_137 : decode (jm_cod M_Slave_doRead) 137 = .ok (.iload 4, 2) := dt_Slave_doRead_c2 19
theorem d_Slave_doRead_139 : decode (jm_cod M_Slave_doRead) 139 = .ok (.iload 11, 2) := dt_Slave_doRead_c2 20
theorem d_Slave_doRead_141 : decode (jm_cod M_Slave_doRead) 141 = .ok (.iload 7, 2) := dt_Slave_doRead_c2 21
theorem d_Slave_doRead_143 : decode (jm_cod M_Slave_doRead) 143 = .ok (.iload_n 3, 1) := dt_Slave_doRead_c2 22
theorem d_Slave_doRead_144 : decode (jm_cod M_Slave_doRead) 144 = .ok (.iconst 1, 1) := dt_Slave_doRead_c2 23
def tab_Slave_doRead_c3 : List (Nat × Instr × Nat) := [(145, .isub, 1), (146, .if_icmp .ne 7, 3), (149, .iconst 1, 1), (150, .goto 4, 3), (153, .iconst 0, 1), (154, .invokestatic 112, 3), (157, .iastore, 1), (158, .iload 6, 2), (160, .ifCond .eq 12, 3), (163, .iload 10, 2), (165, .ifCond .ne 7, 3), (168, .iconst 1, 1), (169, .goto 4, 3), (172, .iconst 0, 1), (173, .istore 6, 2), (175, .iinc 7 1, 3), (178, .goto (-136), 3), (181, .iload 5, 2), (183, .ifCond .eq 36, 3), (186, .iload 6, 2), (188, .ifCond .eq 31, 3), (191, .aload_n 0, 1), (192, .getfield 27, 3), (195, .iload 4, 2)]
theorem dt_Slave_doRead_c3 (i : Nat) : decode (jm_cod M_Slave_doRead) (tab_Slave_doRead_c3.getD i (145, .isub, 1)).1 = .ok ((tab_Slave_doRead_c3.getD i (145, .isub, 1)).2.1, (tab_Slave_doRead_c3.getD i (145, .isub, 1)).2.2) := j_tab (by decide +kernel) i
theorem d_Slave_doRead_145 : decode (jm_cod M_Slave_doRead) 145 = .ok (.isub, 1) := dt_Slave_doRead_c3 0
theorem d_Slave_doRead_146 : decode (jm_cod M_Slave_doRead) 146 = .ok (.if_icmp .ne 7, 3) := dt_Slave_doRead_c3 1
theorem d_Slave_doRead_149 : decode (jm_cod M_Slave_doRead) 149 = .ok (.iconst 1, 1) := dt_Slave_doRead_c3 2
theorem d_Slave_doRead_150 : decode (jm_cod M_Slave_doRead) 150 = .ok (.goto 4, 3) := dt_Slave_doRead_c3 3
theorem d_Slave_doRead_153 : decode (jm_cod M_Slave_doRead) 153 = .ok (.iconst 0, 1) := dt_Slave_doRead_c3 4
theorem d_Slave_doRead_154 : decode (jm_cod M_Slave_doRead) 154 = .ok (.invokestatic 112, 3) := dt_Slave_doRead_c3 5
theorem d_Slave_doRead_157 : decode (jm_cod M_Slave_doRead) 157 = .ok (.iastore, 1) := dt_Slave_doRead_c3 6
theorem d_Slave_doRead_158 : decode (jm_cod M_Slave_doRead) 158 = .ok (.iload 6, 2) := dt_Slave_doRead_c3 7
theorem d_Slave_doRead_160 : decode (jm_cod M_Slave_doRead) 160 = .ok (.ifCond .eq 12, 3) := dt_Slave_doRead_c3 8
theorem d_Slave_doRead_163 : decode (jm_cod M_Slave_doRead) 163 = .ok (.iload 10, 2) := dt_Slave_doRead_c3 9
theorem d_Slave_doRead_165 : decode (jm_cod M_Slave_doRead) 165 = .ok (.ifCond .ne 7, 3) := dt_Slave_doRead_c3 10
theorem d_Slave_doRead_168 : decode (jm_cod M_Slave_doRead) 168 = .ok (.iconst 1, 1) := dt_Slave_doRead_c3 11
theorem d_Slave_doRead_169 : decode (jm_cod M_Slave_doRead) 169 = .ok (.goto 4, 3) := dt_Slave_doRead_c3 12
theorem d_Slave_doRead_172 : decode (jm_cod M_Slave_doRead) 172 = .ok (.iconst 0, 1) := dt_Slave_doRead_c3 13
theorem d_Slave_doRead_173 : decode (jm_cod M_Slave_doRead) 173 = .ok (.istore 6, 2) := dt_Slave_doRead_c3 14
theorem d_Slave_doRead_175 : decode (jm_cod M_Slave_doRead) 175 = .ok (.iinc 7 1, 3) := dt_Slave_doRead_c3 15
theorem d_Slave_doRead_178 : decode (jm_cod M_Slave_doRead) 178 = .ok (.goto (-136), 3) := dt_Slave_doRead_c3 16
theorem d_Slave_doRead_181 : decode (jm_cod M_Slave_doRead) 181 = .ok (.iload 5, 2) := dt_Slave_doRead_c3 17
theorem d_Slave_doRead_183 : decode (jm_cod M_Slave_doRead) 183 = .ok (.ifCond .eq 36, 3) := dt_Slave_doRead_c3 18
theorem d_Slave_doRead_186 : decode (jm_cod M_Slave_doRead) 186 = .ok (.iload 6, 2) := dt_Slave_doRead_c3 19
theorem d_Slave_doRead_188 : decode (jm_cod M_Slave_doRead) 188 = .ok (.ifCond .eq 31, 3) := dt_Slave_doRead_c3 20
theorem d_Slave_doRead_191 : decode (jm_cod M_Slave_doRead) 191 = .ok (.aload_n 0, 1) := dt_Slave_doRead_c3 21
theorem d_Slave_doRead_192 : decode (jm_cod M_Slave_doRead) 192 = .ok (.getfield 27, 3) := dt_Slave_doRead_c3 22
theorem d_Slave_doRead_195 : decode (jm_cod M_Slave_doRead) 195 = .ok (.iload 4, 2) := dt_Slave_doRead_c3 23
def tab_Slave_doRead_c4 : List (Nat × Instr × Nat) := [(197, .aload_n 1, 1), (198, .getfield 99, 3), (201, .invokestatic 205, 3), (204, .iastore, 1), (205, .aload_n 0, 1), (206, .getfield 30, 3), (209, .iload 4, 2), (211, .aload_n 1, 1), (212, .getfield 99, 3), (215, .invokestatic 208, 3), (218, .iastore, 1), (219, .return_, 1)]
theorem dt_Slave_doRead_c4 (i : Nat) : decode (jm_cod M_Slave_doRead) (tab_Slave_doRead_c4.getD i (197, .aload_n 1, 1)).1 = .ok ((tab_Slave_doRead_c4.getD i (197, .aload_n 1, 1)).2.1, (tab_Slave_doRead_c4.getD i (197, .aload_n 1, 1)).2.2) := j_tab (by decide +kernel) i
theorem d_Slave_doRead_197 : decode (jm_cod M_Slave_doRead) 197 = .ok (.aload_n 1, 1) := dt_Slave_doRead_c4 0
theorem d_Slave_doRead_198 : decode (jm_cod M_Slave_doRead) 198 = .ok (.getfield 99, 3) := dt_Slave_doRead_c4 1
theorem d_Slave_doRead_201 : decode (jm_cod M_Slave_doRead) 201 = .ok (.invokestatic 205, 3) := dt_Slave_doRead_c4 2
theorem d_Slave_doRead_204 : decode (jm_cod M_Slave_doRead) 204 = .ok (.iastore, 1) := dt_Slave_doRead_c4 3
theorem d_Slave_doRead_205 : decode (jm_cod M_Slave_doRead) 205 = .ok (.aload_n 0, 1) := dt_Slave_doRead_c4 4
theorem d_Slave_doRead_206 : decode (jm_cod M_Slave_doRead) 206 = .ok (.getfield 30, 3) := dt_Slave_doRead_c4 5
theorem d_Slave_doRead_209 : decode (jm_cod M_Slave_doRead) 209 = .ok (.iload 4, 2) := dt_Slave_doRead_c4 6
theorem d_Slave_doRead_211 : decode (jm_cod M_Slave_doRead) 211 = .ok (.aload_n 1, 1) := dt_Slave_doRead_c4 7
theorem d_Slave_doRead_212 : decode (jm_cod M_Slave_doRead) 212 = .ok (.getfield 99, 3) := dt_Slave_doRead_c4 8
theorem d_Slave_doRead_215 : decode (jm_cod M_Slave_doRead) 215 = .ok (.invokestatic 208, 3) := dt_Slave_doRead_c4 9
theorem d_Slave_doRead_218 : decode (jm_cod M_Slave_doRead) 218 = .ok (.iastore, 1) := dt_Slave_doRead_c4 10
theorem d_Slave_doRead_219 : decode (jm_cod M_Slave_doRead) 219 = .ok (.return_, 1) := dt_Slave_doRead_c4 11
def tab_Slave_passReadBeat_c0 : List (Nat × Instr × Nat) := [(0, .aload_n 1, 1), (1, .ifnonnull 4, 3), (4, .return_, 1), (5, .aload_n 0, 1), (6, .aload_n 1, 1), (7, .getfield 149, 3), (10, .putfield 40, 3), (13, .aload_n 1, 1), (14, .dup, 1), (15, .getfield 120, 3), (18, .iconst 1, 1), (19, .iadd, 1), (20, .putfield 120, 3), (23, .aload_n 1, 1), (24, .getfield 120, 3), (27, .aload_n 1, 1), (28, .getfield 99, 3), (31, .invokestatic 180, 3), (34, .if_icmp .lt 14, 3), (37, .aload_n 0, 1), (38, .getfield 24, 3), (41, .aload_n 0, 1), (42, .getfield 37, 3), (45, .invokevirtual 170, 3)]
theorem dt_Slave_passReadBeat_c0 (i : Nat) : decode (jm_cod M_Slave_passReadBeat) (tab_Slave_passReadBeat_c0.getD i (0, .aload_n 1, 1)).1 = .ok ((tab_Slave_passReadBeat_c0.getD i (0, .aload_n 1, 1)).2.1, (tab_Slave_passReadBeat_c0.getD i (0, .aload_n 1, 1)).2.2) := j_tab (by decide +kernel) i
theorem d_Slave_passReadBeat_0 : decode (jm_cod M_Slave_passReadBeat) 0 = .ok (.aload_n 1, 1) := dt_Slave_passReadBeat_c0 0
theorem d_Slave_passReadBeat_1 : decode (jm_cod M_Slave_passReadBeat) 1 = .ok (.ifnonnull 4, 3) := dt_Slave_passReadBeat_c0 1
theorem d_Slave_passReadBeat_4 : decode (jm_cod M_Slave_passReadBeat) 4 = .ok (.return_, 1) := dt_Slave_passReadBeat_c0 2
theorem d_Slave_passReadBeat_5 : decode (jm_cod M_Slave_passReadBeat) 5 = .ok (.aload_n 0, 1) := dt_Slave_passReadBeat_c0 3
theorem d_Slave_passReadBeat_6 : decode (jm_cod M_Slave_passReadBeat) 6 = .ok (.aload_n 1, 1) := dt_Slave_passReadBeat_c0 4
theorem d_Slave_passReadBeat_7 : decode (jm_cod M_Slave_passReadBeat) 7 = .ok (.getfield 149, 3) := dt_Slave_passReadBeat_c0 5
theorem d_Slave_passReadBeat_10 : decode (jm_cod M_Slave_passReadBeat) 10 = .ok (.putfield 40, 3) := dt_Slave_passReadBeat_c0 6
theorem d_Slave_passReadBeat_13 : decode (jm_cod M_Slave_passReadBeat) 13 = .ok (.aload_n 1, 1) := dt_Slave_passReadBeat_c0 7
theorem d_Slave_passReadBeat_14 : decode (jm_cod M_Slave_passReadBeat) 14 = .ok (.dup, 1) := dt_Slave_passReadBeat_c0 8
theorem d_Slave_passReadBeat_15 : decode (jm_cod M_Slave_passReadBeat) 15 = .ok (.getfield 120, 3) := dt_Slave_passReadBeat_c0 9
theorem d_Slave_passReadBeat_18 : decode (jm_cod M_Slave_passReadBeat) 18 = .ok (.iconst 1, 1) := dt_Slave_passReadBeat_c0 10
theorem d_Slave_passReadBeat_19 : decode (jm_cod M_Slave_passReadBeat) 19 = .ok (.iadd, 1) := dt_Slave_passReadBeat_c0 11
theorem d_Slave_passReadBeat_20 : decode (jm_cod M_Slave_passReadBeat) 20 = .ok (.putfield 120, 3) := dt_Slave_passReadBeat_c0 12
theorem d_Slave_passReadBeat_23 : decode (jm_cod M_Slave_passReadBeat) 23 = .ok (.aload_n 1, 1) := dt_Slave_passReadBeat_c0 13
theorem d_Slave_passReadBeat_24 : decode (jm_cod M_Slave_passReadBeat) 24 = .ok (.getfield 120, 3) := dt_Slave_passReadBeat_c0 14
theorem d_Slave_passReadBeat_27 : decode (jm_cod M_Slave_passReadBeat) 27 = .ok (.aload_n 1, 1) := dt_Slave_passReadBeat_c0 15
theorem d_Slave_passReadBeat_28 : decode (jm_cod M_Slave_passReadBeat) 28 = .ok (.getfield 99, 3) := dt_Slave_passReadBeat_c0 16
theorem d_Slave_passReadBeat_31 : decode (jm_cod M_Slave_passReadBeat) 31 = .ok (.invokestatic 180, 3) := dt_Slave_passReadBeat_c0 17
theorem d_Slave_passReadBeat_34 : decode (jm_cod M_Slave_passReadBeat) 34 = .ok (.if_icmp .lt 14, 3) := dt_Slave_passReadBeat_c0 18
theorem d_Slave_passReadBeat_37 : decode (jm_cod M_Slave_passReadBeat) 37 = .ok (.aload_n 0, 1) := dt_Slave_passReadBeat_c0 19
theorem d_Slave_passReadBeat_38 : decode (jm_cod M_Slave_passReadBeat) 38 = .ok (.getfield 24, 3) := dt_Slave_passReadBeat_c0 20
theorem d_Slave_passReadBeat_41 : decode (jm_cod M_Slave_passReadBeat) 41 = .ok (.aload_n 0, 1) := dt_Slave_passReadBeat_c0 21
theorem d_Slave_passReadBeat_42 : decode (jm_cod M_Slave_passReadBeat) 42 = .ok (.getfield 37, 3) := dt_Slave_passReadBeat_c0 22
theorem d_Slave_passReadBeat_45 : decode (jm_cod M_Slave_passReadBeat) 45 = .ok (.invokevirtual 170, 3) := dt_Slave_passReadBeat_c0 23
def tab_Slave_passReadBeat_c1 : List (Nat × Instr × Nat) := [(48, .return_, 1)]
theorem dt_Slave_passReadBeat_c1 (i : Nat) : decode (jm_cod M_Slave_passReadBeat) (tab_Slave_passReadBeat_c1.getD i (48, .return_, 1)).1 = .ok ((tab_Slave_passReadBeat_c1.getD i (48, .return_, 1)).2.1, (tab_Slave_passReadBeat_c1.getD i (48, .return_, 1)).2.2) := j_tab (by decide +kernel) i
theorem d_Slave_passReadBeat_48 : decode (jm_cod M_Slave_passReadBeat) 48 = .ok (.return_, 1) := dt_Slave_passReadBeat_c1 0
