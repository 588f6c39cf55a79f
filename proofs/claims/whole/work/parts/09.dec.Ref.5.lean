def tab_Ref_target_c4 : List (Nat × Instr × Nat) := [(174, .ireturn, 1)]
theorem dt_Ref_target_c4 (i : Nat) : decode (jm_cod M_Ref_target) (tab_Ref_target_c4.getD i (174, .ireturn, 1)).1 = .ok ((tab_Ref_target_c4.getD i (174, .ireturn, 1)).2.1, (tab_Ref_target_c4.getD i (174, .ireturn, 1)).2.2) := j_tab (by decide +kernel) i
theorem d_Ref_target_174 : decode (jm_cod M_Ref_target) 174 = .ok (.ireturn, 1) := dt_Ref_target_c4 0
def tab_Ref_right_c0 : List (Nat × Instr × Nat) := [(0, .aload_n 0, 1), (1, .iload_n 1, 1), (2, .i2l, 1), (3, .lconst 0, 1), (4, .aload_n 0, 1), (5, .getfield 294, 3), (8, .i2l, 1), (9, .lconst 1, 1), (10, .lsub, 1), (11, .invokestatic 599, 3), (14, .ifCond .ne 7, 3), (17, .iconst 1, 1), (18, .goto 20, 3), (21, .iload_n 2, 1), (22, .i2l, 1), (23, .lconst 0, 1), (24, .ldc2_w 306, 3), (27, .invokestatic 599, 3), (30, .ifCond .ne 7, 3), (33, .iconst 2, 1), (34, .goto 4, 3), (37, .iconst 0, 1), (38, .putfield 303, 3), (41, .aload_n 0, 1)]
theorem dt_Ref_right_c0 (i : Nat) : decode (jm_cod M_Ref_right) (tab_Ref_right_c0.getD i (0, .aload_n 0, 1)).1 = .ok ((tab_Ref_right_c0.getD i (0, .aload_n 0, 1)).2.1, (tab_Ref_right_c0.getD i (0, .aload_n 0, 1)).2.2) := j_tab (by decide +kernel) i
theorem d_Ref_right_0 : decode (jm_cod M_Ref_right) 0 = .ok (.aload_n 0, 1) := dt_Ref_right_c0 0
theorem d_Ref_right_1 : decode (jm_cod M_Ref_right) 1 = .ok (.iload_n 1, 1) := dt_Ref_right_c0 1
theorem d_Ref_right_2 : decode (jm_cod M_Ref_right) 2 = .ok (.i2l, 1) := dt_Ref_right_c0 2
theorem d_Ref_right_3 : decode (jm_cod M_Ref_right) 3 = .ok (.lconst 0, 1) := dt_Ref_right_c0 3
theorem d_Ref_right_4 : decode (jm_cod M_Ref_right) 4 = .ok (.aload_n 0, 1) := dt_Ref_right_c0 4
theorem d_Ref_right_5 : decode (jm_cod M_Ref_right) 5 = .ok (.getfield 294, 3) := dt_Ref_right_c0 5
theorem d_Ref_right_8 : decode (jm_cod M_Ref_right) 8 = .ok (.i2l, 1) := dt_Ref_right_c0 6
theorem d_Ref_right_9 : decode (jm_cod M_Ref_right) 9 = .ok (.lconst 1, 1) := dt_Ref_right_c0 7
theorem d_Ref_right_10 : decode (jm_cod M_Ref_right) 10 = .ok (.lsub, 1) := dt_Ref_right_c0 8
theorem d_Ref_right_11 : decode (jm_cod M_Ref_right) 11 = .ok (.invokestatic 599, 3) := dt_Ref_right_c0 9
theorem d_Ref_right_14 : decode (jm_cod M_Ref_right) 14 = .ok (.ifCond .ne 7, 3) := dt_Ref_right_c0 10
theorem d_Ref_right_17 : decode (jm_cod M_Ref_right) 17 = .ok (.iconst 1, 1) := dt_Ref_right_c0 11
theorem d_Ref_right_18 : decode (jm_cod M_Ref_right) 18 = .ok (.goto 20, 3) := dt_Ref_right_c0 12
theorem d_Ref_right_21 : decode (jm_cod M_Ref_right) 21 = .ok (.iload_n 2, 1) := dt_Ref_right_c0 13
theorem d_Ref_right_22 : decode (jm_cod M_Ref_right) 22 = .ok (.i2l, 1) := dt_Ref_right_c0 14
theorem d_Ref_right_23 : decode (jm_cod M_Ref_right) 23 = .ok (.lconst 0, 1) := dt_Ref_right_c0 15
theorem d_Ref_right_24 : decode (jm_cod M_Ref_right) 24 = .ok (.ldc2_w 306, 3) := dt_Ref_right_c0 16
theorem d_Ref_right_27 : decode (jm_cod M_Ref_right) 27 = .ok (.invokestatic 599, 3) := dt_Ref_right_c0 17
theorem d_Ref_right_30 : decode (jm_cod M_Ref_right) 30 = .ok (.ifCond .ne 7, 3) := dt_Ref_right_c0 18
theorem d_Ref_right_33 : decode (jm_cod M_Ref_right) 33 = .ok (.iconst 2, 1) := dt_Ref_right_c0 19
theorem d_Ref_right_34 : decode (jm_cod M_Ref_right) 34 = .ok (.goto 4, 3) := dt_Ref_right_c0 20
theorem d_Ref_right_37 : decode (jm_cod M_Ref_right) 37 = .ok (.iconst 0, 1) := dt_Ref_right_c0 21
theorem d_Ref_right_38 : decode (jm_cod M_Ref_right) 38 = .ok (.putfield 303, 3) := dt_Ref_right_c0 22
theorem d_Ref_right_41 : decode (jm_cod M_Ref_right) 41 = .ok (.aload_n 0, 1) := dt_Ref_right_c0 23
def tab_Ref_right_c1 : List (Nat × Instr × Nat) := [(42, .getfield 303, 3), (45, .ifCond .le 7, 3), (48, .iconst 0, 1), (49, .goto 14, 3), (52, .aload_n 0, 1), (53, .getfield 220, 3), (56, .bipush 64, 2), (58, .iload_n 1, 1), (59, .imul, 1), (60, .iload_n 2, 1), (61, .iadd, 1), (62, .iaload, 1), (63, .ireturn, 1)]
theorem dt_Ref_right_c1 (i : Nat) : decode (jm_cod M_Ref_right) (tab_Ref_right_c1.getD i (42, .getfield 303, 3)).1 = .ok ((tab_Ref_right_c1.getD i (42, .getfield 303, 3)).2.1, (tab_Ref_right_c1.getD i (42, .getfield 303, 3)).2.2) := j_tab (by decide +kernel) i
theorem d_Ref_right_42 : decode (jm_cod M_Ref_right) 42 = .ok (.getfield 303, 3) := dt_Ref_right_c1 0
theorem d_Ref_right_45 : decode (jm_cod M_Ref_right) 45 = .ok (.ifCond .le 7, 3) := dt_Ref_right_c1 1
theorem d_Ref_right_48 : decode (jm_cod M_Ref_right) 48 = .ok (.iconst 0, 1) := dt_Ref_right_c1 2
theorem d_Ref_right_49 : decode (jm_cod M_Ref_right) 49 = .ok (.goto 14, 3) := dt_Ref_right_c1 3
theorem d_Ref_right_52 : decode (jm_cod M_Ref_right) 52 = .ok (.aload_n 0, 1) := dt_Ref_right_c1 4
theorem d_Ref_right_53 : decode (jm_cod M_Ref_right) 53 = .ok (.getfield 220, 3) := dt_Ref_right_c1 5
theorem d_Ref_right_56 : decode (jm_cod M_Ref_right) 56 = .ok (.bipush 64, 2) := dt_Ref_right_c1 6
theorem d_Ref_right_58 : decode (jm_cod M_Ref_right) 58 = .ok (.iload_n 1, 1) := dt_Ref_right_c1 7
theorem d_Ref_right_59 : decode (jm_cod M_Ref_right) 59 = .ok (.imul, 1) := dt_Ref_right_c1 8
theorem d_Ref_right_60 : decode (jm_cod M_Ref_right) 60 = .ok (.iload_n 2, 1) := dt_Ref_right_c1 9
theorem d_Ref_right_61 : decode (jm_cod M_Ref_right) 61 = .ok (.iadd, 1) := dt_Ref_right_c1 10
theorem d_Ref_right_62 : decode (jm_cod M_Ref_right) 62 = .ok (.iaload, 1) := dt_Ref_right_c1 11
theorem d_Ref_right_63 : decode (jm_cod M_Ref_right) 63 = .ok (.ireturn, 1) := dt_Ref_right_c1 12
def tab_Ref_told_c0 : List (Nat × Instr × Nat) := [(0, .aload_n 0, 1), (1, .iconst 0, 1), (2, .putfield 303, 3), (5, .iload_n 1, 1), (6, .tableswitch 77 0 6 #[42, 47, 52, 57, 62, 67, 72], 42), (48, .aload_n 0, 1), (49, .getfield 348, 3), (52, .ireturn, 1), (53, .aload_n 0, 1), (54, .getfield 337, 3), (57, .ireturn, 1), (58, .aload_n 0, 1), (59, .invokevirtual 605, 3), (62, .ireturn, 1), (63, .aload_n 0, 1), (64, .getfield 290, 3), (67, .ireturn, 1), (68, .aload_n 0, 1), (69, .getfield 294, 3), (72, .ireturn, 1), (73, .aload_n 0, 1), (74, .getfield 297, 3), (77, .ireturn, 1), (78, .aload_n 0, 1)]
theorem dt_Ref_told_c0 (i : Nat) : decode (jm_cod M_Ref_told) (tab_Ref_told_c0.getD i (0, .aload_n 0, 1)).1 = .ok ((tab_Ref_told_c0.getD i (0, .aload_n 0, 1)).2.1, (tab_Ref_told_c0.getD i (0, .aload_n 0, 1)).2.2) := j_tab (by decide +kernel) i
theorem d_Ref_told_0 : decode (jm_cod M_Ref_told) 0 = .ok (.aload_n 0, 1) := dt_Ref_told_c0 0
theorem d_Ref_told_1 : decode (jm_cod M_Ref_told) 1 = .ok (.iconst 0, 1) := dt_Ref_told_c0 1
theorem d_Ref_told_2 : decode (jm_cod M_Ref_told) 2 = .ok (.putfield 303, 3) := dt_Ref_told_c0 2
theorem d_Ref_told_5 : decode (jm_cod M_Ref_told) 5 = .ok (.iload_n 1, 1) := dt_Ref_told_c0 3
theorem d_Ref_told_6 : decode (jm_cod M_Ref_told) 6 = .ok (.tableswitch 77 0 6 #[42, 47, 52, 57, 62, 67, 72], 42) := dt_Ref_told_c0 4
theorem d_Ref_told_48 : decode (jm_cod M_Ref_told) 48 = .ok (.aload_n 0, 1) := dt_Ref_told_c0 5
theorem d_Ref_told_49 : decode (jm_cod M_Ref_told) 49 = .ok (.getfield 348, 3) := dt_Ref_told_c0 6
theorem d_Ref_told_52 : decode (jm_cod M_Ref_told) 52 = .ok (.ireturn, 1) := dt_Ref_told_c0 7
theorem d_Ref_told_53 : decode (jm_cod M_Ref_told) 53 = .ok (.aload_n 0, 1) := dt_Ref_told_c0 8
theorem d_Ref_told_54 : decode (jm_cod M_Ref_told) 54 = .ok (.getfield 337, 3) := dt_Ref_told_c0 9
theorem d_Ref_told_57 : decode (jm_cod M_Ref_told) 57 = .ok (.ireturn, 1) := dt_Ref_told_c0 10
theorem d_Ref_told_58 : decode (jm_cod M_Ref_told) 58 = .ok (.aload_n 0, 1) := dt_Ref_told_c0 11
theorem d_Ref_told_59 : decode (jm_cod M_Ref_told) 59 = .ok (.invokevirtual 605, 3) := dt_Ref_told_c0 12
theorem d_Ref_told_62 : decode (jm_cod M_Ref_told) 62 = .ok (.ireturn, 1) := dt_Ref_told_c0 13
theorem d_Ref_told_63 : decode (jm_cod M_Ref_told) 63 = .ok (.aload_n 0, 1) := dt_Ref_told_c0 14
theorem d_Ref_told_64 : decode (jm_cod M_Ref_told) 64 = .ok (.getfield 290, 3) := dt_Ref_told_c0 15
theorem d_Ref_told_67 : decode (jm_cod M_Ref_told) 67 = .ok (.ireturn, 1) := dt_Ref_told_c0 16
theorem d_Ref_told_68 : decode (jm_cod M_Ref_told) 68 = .ok (.aload_n 0, 1) := dt_Ref_told_c0 17
theorem d_Ref_told_69 : decode (jm_cod M_Ref_told) 69 = .ok (.getfield 294, 3) := dt_Ref_told_c0 18
theorem d_Ref_told_72 : decode (jm_cod M_Ref_told) 72 = .ok (.ireturn, 1) := dt_Ref_told_c0 19
theorem d_Ref_told_73 : decode (jm_cod M_Ref_told) 73 = .ok (.aload_n 0, 1) := dt_Ref_told_c0 20
theorem d_Ref_told_74 : decode (jm_cod M_Ref_told) 74 = .ok (.getfield 297, 3) := dt_Ref_told_c0 21
theorem d_Ref_told_77 : decode (jm_cod M_Ref_told) 77 = .ok (.ireturn, 1) := dt_Ref_told_c0 22
theorem d_Ref_told_78 : decode (jm_cod M_Ref_told) 78 = .ok (.aload_n 0, 1) := dt_Ref_told_c0 23
def tab_Ref_told_c1 : List (Nat × Instr × Nat) := [(79, .getfield 532, 3), (82, .ireturn, 1), (83, .iconst (-1), 1), (84, .ireturn, 1)]
theorem dt_Ref_told_c1 (i : Nat) : decode (jm_cod M_Ref_told) (tab_Ref_told_c1.getD i (79, .getfield 532, 3)).1 = .ok ((tab_Ref_told_c1.getD i (79, .getfield 532, 3)).2.1, (tab_Ref_told_c1.getD i (79, .getfield 532, 3)).2.2) := j_tab (by decide +kernel) i
theorem d_Ref_told_79 : decode (jm_cod M_Ref_told) 79 = .ok (.getfield 532, 3) := dt_Ref_told_c1 0
theorem d_Ref_told_82 : decode (jm_cod M_Ref_told) 82 = .ok (.ireturn, 1) := dt_Ref_told_c1 1
theorem d_Ref_told_83 : decode (jm_cod M_Ref_told) 83 = .ok (.iconst (-1), 1) := dt_Ref_told_c1 2
theorem d_Ref_told_84 : decode (jm_cod M_Ref_told) 84 = .ok (.ireturn, 1) := dt_Ref_told_c1 3
def tab_Ref_see_c0 : List (Nat × Instr × Nat) := [(0, .aload_n 0, 1), (1, .iload_n 1, 1), (2, .invokestatic 637, 3), (5, .ifCond .eq 15, 3), (8, .iload_n 2, 1), (9, .i2l, 1), (10, .lconst 0, 1), (11, .ldc2_w 609, 3), (14, .invokestatic 599, 3), (17, .ifCond .ne 7, 3), (20, .iconst 1, 1), (21, .goto 33, 3), (24, .iload_n 3, 1), (25, .i2l, 1), (26, .lconst 0, 1), (27, .ldc2_w 312, 3), (30, .invokestatic 599, 3), (33, .ifCond .eq 16, 3), (36, .iload 6, 2), (38, .i2l, 1), (39, .lconst 0, 1), (40, .ldc2_w 640, 3), (43, .invokestatic 599, 3), (46, .ifCond .ne 7, 3)]
theorem dt_Ref_see_c0 (i : Nat) : decode (jm_cod M_Ref_see) (tab_Ref_see_c0.getD i (0, .aload_n 0, 1)).1 = .ok ((tab_Ref_see_c0.getD i (0, .aload_n 0, 1)).2.1, (tab_Ref_see_c0.getD i (0, .aload_n 0, 1)).2.2) := j_tab (by decide +kernel) i
theorem d_Ref_see_0 : decode (jm_cod M_Ref_see) 0 = .ok (.aload_n 0, 1) := dt_Ref_see_c0 0
theorem d_Ref_see_1 : decode (jm_cod M_Ref_see) 1 = .ok (.iload_n 1, 1) := dt_Ref_see_c0 1
theorem d_Ref_see_2 : decode (jm_cod M_Ref_see) 2 = .ok (.invokestatic 637, 3) := dt_Ref_see_c0 2
theorem d_Ref_see_5 : decode (jm_cod M_Ref_see) 5 = .ok (.ifCond .eq 15, 3) := dt_Ref_see_c0 3
theorem d_Ref_see_8 : decode (jm_cod M_Ref_see) 8 = .ok (.iload_n 2, 1) := dt_Ref_see_c0 4
theorem d_Ref_see_9 : decode (jm_cod M_Ref_see) 9 = .ok (.i2l, 1) := dt_Ref_see_c0 5
theorem d_Ref_see_10 : decode (jm_cod M_Ref_see) 10 = .ok (.lconst 0, 1) := dt_Ref_see_c0 6
theorem d_Ref_see_11 : decode (jm_cod M_Ref_see) 11 = .ok (.ldc2_w 609, 3) := dt_Ref_see_c0 7
theorem d_Ref_see_14 : decode (jm_cod M_Ref_see) 14 = .ok (.invokestatic 599, 3) := dt_Ref_see_c0 8
theorem d_Ref_see_17 : decode (jm_cod M_Ref_see) 17 = .ok (.ifCond .ne 7, 3) := dt_Ref_see_c0 9
theorem d_Ref_see_20 : decode (jm_cod M_Ref_see) 20 = .ok (.iconst 1, 1) := dt_Ref_see_c0 10
theorem d_Ref_see_21 : decode (jm_cod M_Ref_see) 21 = .ok (.goto 33, 3) := dt_Ref_see_c0 11
theorem d_Ref_see_24 : decode (jm_cod M_Ref_see) 24 = .ok (.iload_n 3, 1) := dt_Ref_see_c0 12
theorem d_Ref_see_25 : decode (jm_cod M_Ref_see) 25 = .ok (.i2l, 1) := dt_Ref_see_c0 13
theorem d_Ref_see_26 : decode (jm_cod M_Ref_see) 26 = .ok (.lconst 0, 1) := dt_Ref_see_c0 14
theorem d_Ref_see_27 : decode (jm_cod M_Ref_see) 27 = .ok (.ldc2_w 312, 3) := dt_Ref_see_c0 15
theorem d_Ref_see_30 : decode (jm_cod M_Ref_see) 30 = .ok (.invokestatic 599, 3) := dt_Ref_see_c0 16
theorem d_Ref_see_33 : decode (jm_cod M_Ref_see) 33 = .ok (.ifCond .eq 16, 3) := dt_Ref_see_c0 17
theorem d_Ref_see_36 : decode (jm_cod M_Ref_see) 36 = .ok (.iload 6, 2) := dt_Ref_see_c0 18
theorem d_Ref_see_38 : decode (jm_cod M_Ref_see) 38 = .ok (.i2l, 1) := dt_Ref_see_c0 19
theorem d_Ref_see_39 : decode (jm_cod M_Ref_see) 39 = .ok (.lconst 0, 1) := dt_Ref_see_c0 20
theorem d_Ref_see_40 : decode (jm_cod M_Ref_see) 40 = .ok (.ldc2_w 640, 3) := dt_Ref_see_c0 21
theorem d_Ref_see_43 : decode (jm_cod M_Ref_see) 43 = .ok (.invokestatic 599, 3) := dt_Ref_see_c0 22
theorem d_Ref_see_46 : decode (jm_cod M_Ref_see) 46 = .ok (.ifCond .ne 7, 3) := dt_Ref_see_c0 23
def tab_Ref_see_c1 : List (Nat × Instr × Nat) := [(49, .iconst 2, 1), (50, .goto 4, 3), (53, .iconst 0, 1), (54, .putfield 303, 3), (57, .aload_n 0, 1), (58, .getfield 303, 3), (61, .ifCond .le 4, 3), (64, .return_, 1), (65, .iconst 5, 1), (66, .iload_n 1, 1), (67, .imul, 1), (68, .iload_n 2, 1), (69, .iadd, 1), (70, .istore 7, 2), (72, .aload_n 0, 1), (73, .getfield 274, 3), (76, .iload 7, 2), (78, .iload_n 3, 1), (79, .iconst 2, 1), (80, .irem, 1), (81, .iconst 1, 1), (82, .if_icmp .ne 7, 3), (85, .iconst 1, 1), (86, .goto 4, 3)]
theorem dt_Ref_see_c1 (i : Nat) : decode (jm_cod M_Ref_see) (tab_Ref_see_c1.getD i (49, .iconst 2, 1)).1 = .ok ((tab_Ref_see_c1.getD i (49, .iconst 2, 1)).2.1, (tab_Ref_see_c1.getD i (49, .iconst 2, 1)).2.2) := j_tab (by decide +kernel) i
theorem d_Ref_see_49 : decode (jm_cod M_Ref_see) 49 = .ok (.iconst 2, 1) := dt_Ref_see_c1 0
theorem d_Ref_see_50 : decode (jm_cod M_Ref_see) 50 = .ok (.goto 4, 3) := dt_Ref_see_c1 1
theorem d_Ref_see_53 : decode (jm_cod M_Ref_see) 53 = .ok (.iconst 0, 1) := dt_Ref_see_c1 2
theorem d_Ref_see_54 : decode (jm_cod M_Ref_see) 54 = .ok (.putfield 303, 3) := dt_Ref_see_c1 3
theorem d_Ref_see_57 : decode (jm_cod M_Ref_see) 57 = .ok (.aload_n 0, 1) := dt_Ref_see_c1 4
theorem d_Ref_see_58 : decode (jm_cod M_Ref_see) 58 = .ok (.getfield 303, 3) := dt_Ref_see_c1 5
theorem d_Ref_see_61 : decode (jm_cod M_Ref_see) 61 = .ok (.ifCond .le 4, 3) := dt_Ref_see_c1 6
theorem d_Ref_see_64 : decode (jm_cod M_Ref_see) 64 = .ok (.return_, 1) := dt_Ref_see_c1 7
theorem d_Ref_see_65 : decode (jm_cod M_Ref_see) 65 = .ok (.iconst 5, 1) := dt_Ref_see_c1 8
theorem d_Ref_see_66 : decode (jm_cod M_Ref_see) 66 = .ok (.iload_n 1, 1) := dt_Ref_see_c1 9
theorem d_Ref_see_67 : decode (jm_cod M_Ref_see) 67 = .ok (.imul, 1) := dt_Ref_see_c1 10
theorem d_Ref_see_68 : decode (jm_cod M_Ref_see) 68 = .ok (.iload_n 2, 1) := dt_Ref_see_c1 11
theorem d_Ref_see_69 : decode (jm_cod M_Ref_see) 69 = .ok (.iadd, 1) := dt_Ref_see_c1 12
theorem d_Ref_see_70 : decode (jm_cod M_Ref_see) 70 = .ok (.istore 7, 2) := dt_Ref_see_c1 13
theorem d_Ref_see_72 : decode (jm_cod M_Ref_see) 72 = .ok (.aload_n 0, 1) := dt_Ref_see_c1 14
theorem d_Ref_see_73 : decode (jm_cod M_Ref_see) 73 = .ok (.getfield 274, 3) := dt_Ref_see_c1 15
theorem d_Ref_see_76 : decode (jm_cod M_Ref_see) 76 = .ok (.iload 7, 2) := dt_Ref_see_c1 16
theorem d_Ref_see_78 : decode (jm_cod M_Ref_see) 78 = .ok (.iload_n 3, 1) := dt_Ref_see_c1 17
theorem d_Ref_see_79 : decode (jm_cod M_Ref_see) 79 = .ok (.iconst 2, 1) := dt_Ref_see_c1 18
theorem d_Ref_see_80 : decode (jm_cod M_Ref_see) 80 = .ok (.irem, 1) := dt_Ref_see_c1 19
theorem d_Ref_see_81 : decode (jm_cod M_Ref_see) 81 = .ok (.iconst 1, 1) := dt_Ref_see_c1 20
theorem d_Ref_see_82 : decode (jm_cod M_Ref_see) 82 = .ok (.if_icmp .ne 7, 3) := dt_Ref_see_c1 21
theorem d_Ref_see_85 : decode (jm_cod M_Ref_see) 85 = .ok (.iconst 1, 1) := dt_Ref_see_c1 22
theorem d_Ref_see_86 : decode (jm_cod M_Ref_see) 86 = .ok (.goto 4, 3) := dt_Ref_see_c1 23
def tab_Ref_see_c2 : List (Nat × Instr × Nat) := [(89, .iconst 0, 1), (90, .bastore, 1), (91, .aload_n 0, 1), (92, .getfield 277, 3), (95, .iload 7, 2), (97, .iload_n 3, 1), (98, .iconst 1, 1), (99, .if_icmp .le 7, 3), (102, .iconst 1, 1), (103, .goto 4, 3), (106, .iconst 0, 1), (107, .bastore, 1), (108, .aload_n 0, 1), (109, .getfield 280, 3), (112, .iload 7, 2), (114, .aload_n 0, 1), (115, .getfield 274, 3), (118, .iload 7, 2), (120, .baload, 1), (121, .ifCond .eq 8, 3), (124, .lload 4, 2), (126, .goto 4, 3), (129, .lconst 0, 1), (130, .lastore, 1)]
theorem dt_Ref_see_c2 (i : Nat) : decode (jm_cod M_Ref_see) (tab_Ref_see_c2.getD i (89, .iconst 0, 1)).1 = .ok ((tab_Ref_see_c2.getD i (89, .iconst 0, 1)).2.1, (tab_Ref_see_c2.getD i (89, .iconst 0, 1)).2.2) := j_tab (by decide +kernel) i
theorem d_Ref_see_89 : decode (jm_cod M_Ref_see) 89 = .ok (.iconst 0, 1) := dt_Ref_see_c2 0
theorem d_Ref_see_90 : decode (jm_cod M_Ref_see) 90 = .ok (.bastore, 1) := dt_Ref_see_c2 1
theorem d_Ref_see_91 : decode (jm_cod M_Ref_see) 91 = .ok (.aload_n 0, 1) := dt_Ref_see_c2 2
theorem d_Ref_see_92 : decode (jm_cod M_Ref_see) 92 = .ok (.getfield 277, 3) := dt_Ref_see_c2 3
theorem d_Ref_see_95 : decode (jm_cod M_Ref_see) 95 = .ok (.iload 7, 2) := dt_Ref_see_c2 4
theorem d_Ref_see_97 : decode (jm_cod M_Ref_see) 97 = .ok (.iload_n 3, 1) := dt_Ref_see_c2 5
theorem d_Ref_see_98 : decode (jm_cod M_Ref_see) 98 = .ok (.iconst 1, 1) := dt_Ref_see_c2 6
theorem d_Ref_see_99 : decode (jm_cod M_Ref_see) 99 = .ok (.if_icmp .le 7, 3) := dt_Ref_see_c2 7
theorem d_Ref_see_102 : decode (jm_cod M_Ref_see) 102 = .ok (.iconst 1, 1) := dt_Ref_see_c2 8
theorem d_Ref_see_103 : decode (jm_cod M_Ref_see) 103 = .ok (.goto 4, 3) := dt_Ref_see_c2 9
theorem d_Ref_see_106 : decode (jm_cod M_Ref_see) 106 = .ok (.iconst 0, 1) := dt_Ref_see_c2 10
theorem d_Ref_see_107 : decode (jm_cod M_Ref_see) 107 = .ok (.bastore, 1) := dt_Ref_see_c2 11
theorem d_Ref_see_108 : decode (jm_cod M_Ref_see) 108 = .ok (.aload_n 0, 1) := dt_Ref_see_c2 12
theorem d_Ref_see_109 : decode (jm_cod M_Ref_see) 109 = .ok (.getfield 280, 3) := dt_Ref_see_c2 13
theorem d_Ref_see_112 : decode (jm_cod M_Ref_see) 112 = .ok (.iload 7, 2) := dt_Ref_see_c2 14
theorem d_Ref_see_114 : decode (jm_cod M_Ref_see) 114 = .ok (.aload_n 0, 1) := dt_Ref_see_c2 15
theorem d_Ref_see_115 : decode (jm_cod M_Ref_see) 115 = .ok (.getfield 274, 3) := dt_Ref_see_c2 16
theorem d_Ref_see_118 : decode (jm_cod M_Ref_see) 118 = .ok (.iload 7, 2) := dt_Ref_see_c2 17
theorem d_Ref_see_120 : decode (jm_cod M_Ref_see) 120 = .ok (.baload, 1) := dt_Ref_see_c2 18
theorem d_Ref_see_121 : decode (jm_cod M_Ref_see) 121 = .ok (.ifCond .eq 8, 3) := dt_Ref_see_c2 19
theorem d_Ref_see_124 : decode (jm_cod M_Ref_see) 124 = .ok (.lload 4, 2) := dt_Ref_see_c2 20
theorem d_Ref_see_126 : decode (jm_cod M_Ref_see) 126 = .ok (.goto 4, 3) := dt_Ref_see_c2 21
theorem d_Ref_see_129 : decode (jm_cod M_Ref_see) 129 = .ok (.lconst 0, 1) := dt_Ref_see_c2 22
theorem d_Ref_see_130 : decode (jm_cod M_Ref_see) 130 = .ok (.lastore, 1) := dt_Ref_see_c2 23
def tab_Ref_see_c3 : List (Nat × Instr × Nat) := [(131, .aload_n 0, 1), (132, .getfield 283, 3), (135, .iload 7, 2), (137, .aload_n 0, 1), (138, .getfield 274, 3), (141, .iload 7, 2), (143, .baload, 1), (144, .ifCond .eq 8, 3), (147, .iload 6, 2), (149, .goto 4, 3), (152, .iconst 0, 1), (153, .iastore, 1), (154, .return_, 1)]
theorem dt_Ref_see_c3 (i : Nat) : decode (jm_cod M_Ref_see) (tab_Ref_see_c3.getD i (131, .aload_n 0, 1)).1 = .ok ((tab_Ref_see_c3.getD i (131, .aload_n 0, 1)).2.1, (tab_Ref_see_c3.getD i (131, .aload_n 0, 1)).2.2) := j_tab (by decide +kernel) i
theorem d_Ref_see_131 : decode (jm_cod M_Ref_see) 131 = .ok (.aload_n 0, 1) := dt_Ref_see_c3 0
theorem d_Ref_see_132 : decode (jm_cod M_Ref_see) 132 = .ok (.getfield 283, 3) := dt_Ref_see_c3 1
theorem d_Ref_see_135 : decode (jm_cod M_Ref_see) 135 = .ok (.iload 7, 2) := dt_Ref_see_c3 2
theorem d_Ref_see_137 : decode (jm_cod M_Ref_see) 137 = .ok (.aload_n 0, 1) := dt_Ref_see_c3 3
theorem d_Ref_see_138 : decode (jm_cod M_Ref_see) 138 = .ok (.getfield 274, 3) := dt_Ref_see_c3 4
theorem d_Ref_see_141 : decode (jm_cod M_Ref_see) 141 = .ok (.iload 7, 2) := dt_Ref_see_c3 5
theorem d_Ref_see_143 : decode (jm_cod M_Ref_see) 143 = .ok (.baload, 1) := dt_Ref_see_c3 6
theorem d_Ref_see_144 : decode (jm_cod M_Ref_see) 144 = .ok (.ifCond .eq 8, 3) := dt_Ref_see_c3 7
theorem d_Ref_see_147 : decode (jm_cod M_Ref_see) 147 = .ok (.iload 6, 2) := dt_Ref_see_c3 8
theorem d_Ref_see_149 : decode (jm_cod M_Ref_see) 149 = .ok (.goto 4, 3) := dt_Ref_see_c3 9
theorem d_Ref_see_152 : decode (jm_cod M_Ref_see) 152 = .ok (.iconst 0, 1) := dt_Ref_see_c3 10
theorem d_Ref_see_153 : decode (jm_cod M_Ref_see) 153 = .ok (.iastore, 1) := dt_Ref_see_c3 11
theorem d_Ref_see_154 : decode (jm_cod M_Ref_see) 154 = .ok (.return_, 1) := dt_Ref_see_c3 12
def tab_Ref_isWatcher_c0 : List (Nat × Instr × Nat) := [(0, .iload_n 0, 1), (1, .i2l, 1), (2, .lconst 0, 1), (3, .lconst 1, 1), (4, .invokestatic 599, 3), (7, .ireturn, 1)]
theorem dt_Ref_isWatcher_c0 (i : Nat) : decode (jm_cod M_Ref_isWatcher) (tab_Ref_isWatcher_c0.getD i (0, .iload_n 0, 1)).1 = .ok ((tab_Ref_isWatcher_c0.getD i (0, .iload_n 0, 1)).2.1, (tab_Ref_isWatcher_c0.getD i (0, .iload_n 0, 1)).2.2) := j_tab (by decide +kernel) i
theorem d_Ref_isWatcher_0 : decode (jm_cod M_Ref_isWatcher) 0 = .ok (.iload_n 0, 1) := dt_Ref_isWatcher_c0 0
theorem d_Ref_isWatcher_1 : decode (jm_cod M_Ref_isWatcher) 1 = .ok (.i2l, 1) := dt_Ref_isWatcher_c0 1
theorem d_Ref_isWatcher_2 : decode (jm_cod M_Ref_isWatcher) 2 = .ok (.lconst 0, 1) := dt_Ref_isWatcher_c0 2
theorem d_Ref_isWatcher_3 : decode (jm_cod M_Ref_isWatcher) 3 = .ok (.lconst 1, 1) := dt_Ref_isWatcher_c0 3
theorem d_Ref_isWatcher_4 : decode (jm_cod M_Ref_isWatcher) 4 = .ok (.invokestatic 599, 3) := dt_Ref_isWatcher_c0 4
theorem d_Ref_isWatcher_7 : decode (jm_cod M_Ref_isWatcher) 7 = .ok (.ireturn, 1) := dt_Ref_isWatcher_c0 5
def tab_Ref_judge_c0 : List (Nat × Instr × Nat) := [(0, .aload_n 0, 1), (1, .iload_n 1, 1), (2, .invokestatic 637, 3), (5, .ifCond .eq 7, 3), (8, .iconst 0, 1), (9, .goto 4, 3), (12, .iconst 1, 1), (13, .putfield 303, 3), (16, .aload_n 0, 1), (17, .getfield 303, 3), (20, .ifCond .le 5, 3), (23, .iconst 0, 1), (24, .ireturn, 1), (25, .aload_n 0, 1), (26, .bipush 8, 2), (28, .iload_n 1, 1), (29, .iadd, 1), (30, .iconst 5, 1), (31, .iload_n 1, 1), (32, .imul, 1), (33, .iconst 1, 1), (34, .invokevirtual 587, 3), (37, .aload_n 0, 1), (38, .iload_n 1, 1)]
theorem dt_Ref_judge_c0 (i : Nat) : decode (jm_cod M_Ref_judge) (tab_Ref_judge_c0.getD i (0, .aload_n 0, 1)).1 = .ok ((tab_Ref_judge_c0.getD i (0, .aload_n 0, 1)).2.1, (tab_Ref_judge_c0.getD i (0, .aload_n 0, 1)).2.2) := j_tab (by decide +kernel) i
theorem d_Ref_judge_0 : decode (jm_cod M_Ref_judge) 0 = .ok (.aload_n 0, 1) := dt_Ref_judge_c0 0
theorem d_Ref_judge_1 : decode (jm_cod M_Ref_judge) 1 = .ok (.iload_n 1, 1) := dt_Ref_judge_c0 1
theorem d_Ref_judge_2 : decode (jm_cod M_Ref_judge) 2 = .ok (.invokestatic 637, 3) := dt_Ref_judge_c0 2
theorem d_Ref_judge_5 : decode (jm_cod M_Ref_judge) 5 = .ok (.ifCond .eq 7, 3) := dt_Ref_judge_c0 3
theorem d_Ref_judge_8 : decode (jm_cod M_Ref_judge) 8 = .ok (.iconst 0, 1) := dt_Ref_judge_c0 4
theorem d_Ref_judge_9 : decode (jm_cod M_Ref_judge) 9 = .ok (.goto 4, 3) := dt_Ref_judge_c0 5
theorem d_Ref_judge_12 : decode (jm_cod M_Ref_judge) 12 = .ok (.iconst 1, 1) := dt_Ref_judge_c0 6
theorem d_Ref_judge_13 : decode (jm_cod M_Ref_judge) 13 = .ok (.putfield 303, 3) := dt_Ref_judge_c0 7
theorem d_Ref_judge_16 : decode (jm_cod M_Ref_judge) 16 = .ok (.aload_n 0, 1) := dt_Ref_judge_c0 8
theorem d_Ref_judge_17 : decode (jm_cod M_Ref_judge) 17 = .ok (.getfield 303, 3) := dt_Ref_judge_c0 9
theorem d_Ref_judge_20 : decode (jm_cod M_Ref_judge) 20 = .ok (.ifCond .le 5, 3) := dt_Ref_judge_c0 10
theorem d_Ref_judge_23 : decode (jm_cod M_Ref_judge) 23 = .ok (.iconst 0, 1) := dt_Ref_judge_c0 11
theorem d_Ref_judge_24 : decode (jm_cod M_Ref_judge) 24 = .ok (.ireturn, 1) := dt_Ref_judge_c0 12
theorem d_Ref_judge_25 : decode (jm_cod M_Ref_judge) 25 = .ok (.aload_n 0, 1) := dt_Ref_judge_c0 13
theorem d_Ref_judge_26 : decode (jm_cod M_Ref_judge) 26 = .ok (.bipush 8, 2) := dt_Ref_judge_c0 14
theorem d_Ref_judge_28 : decode (jm_cod M_Ref_judge) 28 = .ok (.iload_n 1, 1) := dt_Ref_judge_c0 15
theorem d_Ref_judge_29 : decode (jm_cod M_Ref_judge) 29 = .ok (.iadd, 1) := dt_Ref_judge_c0 16
theorem d_Ref_judge_30 : decode (jm_cod M_Ref_judge) 30 = .ok (.iconst 5, 1) := dt_Ref_judge_c0 17
theorem d_Ref_judge_31 : decode (jm_cod M_Ref_judge) 31 = .ok (.iload_n 1, 1) := dt_Ref_judge_c0 18
theorem d_Ref_judge_32 : decode (jm_cod M_Ref_judge) 32 = .ok (.imul, 1) := dt_Ref_judge_c0 19
theorem d_Ref_judge_33 : decode (jm_cod M_Ref_judge) 33 = .ok (.iconst 1, 1) := dt_Ref_judge_c0 20
theorem d_Ref_judge_34 : decode (jm_cod M_Ref_judge) 34 = .ok (.invokevirtual 587, 3) := dt_Ref_judge_c0 21
theorem d_Ref_judge_37 : decode (jm_cod M_Ref_judge) 37 = .ok (.aload_n 0, 1) := dt_Ref_judge_c0 22
theorem d_Ref_judge_38 : decode (jm_cod M_Ref_judge) 38 = .ok (.iload_n 1, 1) := dt_Ref_judge_c0 23
def tab_Ref_judge_c1 : List (Nat × Instr × Nat) := [(39, .invokevirtual 642, 3), (42, .aload_n 0, 1), (43, .getfield 238, 3), (46, .bipush 8, 2), (48, .iload_n 1, 1), (49, .iadd, 1), (50, .iaload, 1), (51, .ireturn, 1)]
theorem dt_Ref_judge_c1 (i : Nat) : decode (jm_cod M_Ref_judge) (tab_Ref_judge_c1.getD i (39, .invokevirtual 642, 3)).1 = .ok ((tab_Ref_judge_c1.getD i (39, .invokevirtual 642, 3)).2.1, (tab_Ref_judge_c1.getD i (39, .invokevirtual 642, 3)).2.2) := j_tab (by decide +kernel) i
theorem d_Ref_judge_39 : decode (jm_cod M_Ref_judge) 39 = .ok (.invokevirtual 642, 3) := dt_Ref_judge_c1 0
theorem d_Ref_judge_42 : decode (jm_cod M_Ref_judge) 42 = .ok (.aload_n 0, 1) := dt_Ref_judge_c1 1
theorem d_Ref_judge_43 : decode (jm_cod M_Ref_judge) 43 = .ok (.getfield 238, 3) := dt_Ref_judge_c1 2
theorem d_Ref_judge_46 : decode (jm_cod M_Ref_judge) 46 = .ok (.bipush 8, 2) := dt_Ref_judge_c1 3
theorem d_Ref_judge_48 : decode (jm_cod M_Ref_judge) 48 = .ok (.iload_n 1, 1) := dt_Ref_judge_c1 4
theorem d_Ref_judge_49 : decode (jm_cod M_Ref_judge) 49 = .ok (.iadd, 1) := dt_Ref_judge_c1 5
theorem d_Ref_judge_50 : decode (jm_cod M_Ref_judge) 50 = .ok (.iaload, 1) := dt_Ref_judge_c1 6
theorem d_Ref_judge_51 : decode (jm_cod M_Ref_judge) 51 = .ok (.ireturn, 1) := dt_Ref_judge_c1 7
def tab_Ref_watched_c0 : List (Nat × Instr × Nat) := [(0, .aload_n 0, 1), (1, .iload_n 1, 1), (2, .invokestatic 637, 3), (5, .ifCond .ne 7, 3), (8, .iconst 1, 1), (9, .goto 20, 3), (12, .iload_n 2, 1), (13, .i2l, 1), (14, .lconst 0, 1), (15, .ldc2_w 645, 3), (18, .invokestatic 599, 3), (21, .ifCond .ne 7, 3), (24, .iconst 2, 1), (25, .goto 4, 3), (28, .iconst 0, 1), (29, .putfield 303, 3), (32, .aload_n 0, 1), (33, .getfield 303, 3), (36, .ifCond .le 5, 3), (39, .iconst 0, 1), (40, .ireturn, 1), (41, .bipush 8, 2), (43, .iload_n 1, 1), (44, .iadd, 1)]
theorem dt_Ref_watched_c0 (i : Nat) : decode (jm_cod M_Ref_watched) (tab_Ref_watched_c0.getD i (0, .aload_n 0, 1)).1 = .ok ((tab_Ref_watched_c0.getD i (0, .aload_n 0, 1)).2.1, (tab_Ref_watched_c0.getD i (0, .aload_n 0, 1)).2.2) := j_tab (by decide +kernel) i
theorem d_Ref_watched_0 : decode (jm_cod M_Ref_watched) 0 = .ok (.aload_n 0, 1) := dt_Ref_watched_c0 0
theorem d_Ref_watched_1 : decode (jm_cod M_Ref_watched) 1 = .ok (.iload_n 1, 1) := dt_Ref_watched_c0 1
theorem d_Ref_watched_2 : decode (jm_cod M_Ref_watched) 2 = .ok (.invokestatic 637, 3) := dt_Ref_watched_c0 2
theorem d_Ref_watched_5 : decode (jm_cod M_Ref_watched) 5 = .ok (.ifCond .ne 7, 3) := dt_Ref_watched_c0 3
theorem d_Ref_watched_8 : decode (jm_cod M_Ref_watched) 8 = .ok (.iconst 1, 1) := dt_Ref_watched_c0 4
theorem d_Ref_watched_9 : decode (jm_cod M_Ref_watched) 9 = .ok (.goto 20, 3) := dt_Ref_watched_c0 5
theorem d_Ref_watched_12 : decode (jm_cod M_Ref_watched) 12 = .ok (.iload_n 2, 1) := dt_Ref_watched_c0 6
theorem d_Ref_watched_13 : decode (jm_cod M_Ref_watched) 13 = .ok (.i2l, 1) := dt_Ref_watched_c0 7
theorem d_Ref_watched_14 : decode (jm_cod M_Ref_watched) 14 = .ok (.lconst 0, 1) := dt_Ref_watched_c0 8
theorem d_Ref_watched_15 : decode (jm_cod M_Ref_watched) 15 = .ok (.ldc2_w 645, 3) := dt_Ref_watched_c0 9
theorem d_Ref_watched_18 : decode (jm_cod M_Ref_watched) 18 = .ok (.invokestatic 599, 3) := dt_Ref_watched_c0 10
theorem d_Ref_watched_21 : decode (jm_cod M_Ref_watched) 21 = .ok (.ifCond .ne 7, 3) := dt_Ref_watched_c0 11
theorem d_Ref_watched_24 : decode (jm_cod M_Ref_watched) 24 = .ok (.iconst 2, 1) := dt_Ref_watched_c0 12
theorem d_Ref_watched_25 : decode (jm_cod M_Ref_watched) 25 = .ok (.goto 4, 3) := dt_Ref_watched_c0 13
theorem d_Ref_watched_28 : decode (jm_cod M_Ref_watched) 28 = .ok (.iconst 0, 1) := dt_Ref_watched_c0 14
theorem d_Ref_watched_29 : decode (jm_cod M_Ref_watched) 29 = .ok (.putfield 303, 3) := dt_Ref_watched_c0 15
theorem d_Ref_watched_32 : decode (jm_cod M_Ref_watched) 32 = .ok (.aload_n 0, 1) := dt_Ref_watched_c0 16
theorem d_Ref_watched_33 : decode (jm_cod M_Ref_watched) 33 = .ok (.getfield 303, 3) := dt_Ref_watched_c0 17
theorem d_Ref_watched_36 : decode (jm_cod M_Ref_watched) 36 = .ok (.ifCond .le 5, 3) := dt_Ref_watched_c0 18
theorem d_Ref_watched_39 : decode (jm_cod M_Ref_watched) 39 = .ok (.iconst 0, 1) := dt_Ref_watched_c0 19
theorem d_Ref_watched_40 : decode (jm_cod M_Ref_watched) 40 = .ok (.ireturn, 1) := dt_Ref_watched_c0 20
theorem d_Ref_watched_41 : decode (jm_cod M_Ref_watched) 41 = .ok (.bipush 8, 2) := dt_Ref_watched_c0 21
theorem d_Ref_watched_43 : decode (jm_cod M_Ref_watched) 43 = .ok (.iload_n 1, 1) := dt_Ref_watched_c0 22
theorem d_Ref_watched_44 : decode (jm_cod M_Ref_watched) 44 = .ok (.iadd, 1) := dt_Ref_watched_c0 23
def tab_Ref_watched_c1 : List (Nat × Instr × Nat) := [(45, .istore_n 3, 1), (46, .iload_n 2, 1), (47, .ifCond .ne 12, 3), (50, .aload_n 0, 1), (51, .getfield 238, 3), (54, .iload_n 3, 1), (55, .iaload, 1), (56, .goto 65, 3), (59, .iload_n 2, 1), (60, .iconst 1, 1), (61, .if_icmp .ne 12, 3), (64, .aload_n 0, 1), (65, .getfield 241, 3), (68, .iload_n 3, 1), (69, .iaload, 1), (70, .goto 51, 3), (73, .iload_n 2, 1), (74, .iconst 2, 1), (75, .if_icmp .ne 12, 3), (78, .aload_n 0, 1), (79, .getfield 244, 3), (82, .iload_n 3, 1), (83, .iaload, 1), (84, .goto 37, 3)]
theorem dt_Ref_watched_c1 (i : Nat) : decode (jm_cod M_Ref_watched) (tab_Ref_watched_c1.getD i (45, .istore_n 3, 1)).1 = .ok ((tab_Ref_watched_c1.getD i (45, .istore_n 3, 1)).2.1, (tab_Ref_watched_c1.getD i (45, .istore_n 3, 1)).2.2) := j_tab (by decide +kernel) i
theorem d_Ref_watched_45 : decode (jm_cod M_Ref_watched) 45 = .ok (.istore_n 3, 1) := dt_Ref_watched_c1 0
theorem d_Ref_watched_46 : decode (jm_cod M_Ref_watched) 46 = .ok (.iload_n 2, 1) := dt_Ref_watched_c1 1
theorem d_Ref_watched_47 : decode (jm_cod M_Ref_watched) 47 = .ok (.ifCond .ne 12, 3) := dt_Ref_watched_c1 2
theorem d_Ref_watched_50 : decode (jm_cod M_Ref_watched) 50 = .ok (.aload_n 0, 1) := dt_Ref_watched_c1 3
theorem d_Ref_watched_51 : decode (jm_cod M_Ref_watched) 51 = .ok (.getfield 238, 3) := dt_Ref_watched_c1 4
theorem d_Ref_watched_54 : decode (jm_cod M_Ref_watched) 54 = .ok (.iload_n 3, 1) := dt_Ref_watched_c1 5
theorem d_Ref_watched_55 : decode (jm_cod M_Ref_watched) 55 = .ok (.iaload, 1) := dt_Ref_watched_c1 6
theorem d_Ref_watched_56 : decode (jm_cod M_Ref_watched) 56 = .ok (.goto 65, 3) := dt_Ref_watched_c1 7
theorem d_Ref_watched_59 : decode (jm_cod M_Ref_watched) 59 = .ok (.iload_n 2, 1) := dt_Ref_watched_c1 8
theorem d_Ref_watched_60 : decode (jm_cod M_Ref_watched) 60 = .ok (.iconst 1, 1) := dt_Ref_watched_c1 9
theorem d_Ref_watched_61 : decode (jm_cod M_Ref_watched) 61 = .ok (.if_icmp .ne 12, 3) := dt_Ref_watched_c1 10
theorem d_Ref_watched_64 : decode (jm_cod M_Ref_watched) 64 = .ok (.aload_n 0, 1) := dt_Ref_watched_c1 11
theorem d_Ref_watched_65 : decode (jm_cod M_Ref_watched) 65 = .ok (.getfield 241, 3) := dt_Ref_watched_c1 12
theorem d_Ref_watched_68 : decode (jm_cod M_Ref_watched) 68 = .ok (.iload_n 3, 1) := dt_Ref_watched_c1 13
theorem d_Ref_watched_69 : decode (jm_cod M_Ref_watched) 69 = .ok (.iaload, 1) := dt_Ref_watched_c1 14
theorem d_Ref_watched_70 : decode (jm_cod M_Ref_watched) 70 = .ok (.goto 51, 3) := dt_Ref_watched_c1 15
theorem d_Ref_watched_73 : decode (jm_cod M_Ref_watched) 73 = .ok (.iload_n 2, 1) := dt_Ref_watched_c1 16
theorem d_Ref_watched_74 : decode (jm_cod M_Ref_watched) 74 = .ok (.iconst 2, 1) := dt_Ref_watched_c1 17
theorem d_Ref_watched_75 : decode (jm_cod M_Ref_watched) 75 = .ok (.if_icmp .ne 12, 3) := dt_Ref_watched_c1 18
theorem d_Ref_watched_78 : decode (jm_cod M_Ref_watched) 78 = .ok (.aload_n 0, 1) := dt_Ref_watched_c1 19
theorem d_Ref_watched_79 : decode (jm_cod M_Ref_watched) 79 = .ok (.getfield 244, 3) := dt_Ref_watched_c1 20
theorem d_Ref_watched_82 : decode (jm_cod M_Ref_watched) 82 = .ok (.iload_n 3, 1) := dt_Ref_watched_c1 21
theorem d_Ref_watched_83 : decode (jm_cod M_Ref_watched) 83 = .ok (.iaload, 1) := dt_Ref_watched_c1 22
theorem d_Ref_watched_84 : decode (jm_cod M_Ref_watched) 84 = .ok (.goto 37, 3) := dt_Ref_watched_c1 23
def tab_Ref_watched_c2 : List (Nat × Instr × Nat) := [(87, .iload_n 2, 1), (88, .iconst 3, 1), (89, .if_icmp .ne 12, 3), (92, .aload_n 0, 1), (93, .getfield 235, 3), (96, .iload_n 3, 1), (97, .iaload, 1), (98, .goto 23, 3), (101, .iload_n 2, 1), (102, .iconst 4, 1), (103, .if_icmp .ne 12, 3), (106, .aload_n 0, 1), (107, .getfield 247, 3), (110, .iload_n 3, 1), (111, .iaload, 1), (112, .goto 9, 3), (115, .aload_n 0, 1), (116, .getfield 250, 3), (119, .iload_n 3, 1), (120, .iaload, 1), (121, .ireturn, 1)]
theorem dt_Ref_watched_c2 (i : Nat) : decode (jm_cod M_Ref_watched) (tab_Ref_watched_c2.getD i (87, .iload_n 2, 1)).1 = .ok ((tab_Ref_watched_c2.getD i (87, .iload_n 2, 1)).2.1, (tab_Ref_watched_c2.getD i (87, .iload_n 2, 1)).2.2) := j_tab (by decide +kernel) i
theorem d_Ref_watched_87 : decode (jm_cod M_Ref_watched) 87 = .ok (.iload_n 2, 1) := dt_Ref_watched_c2 0
theorem d_Ref_watched_88 : decode (jm_cod M_Ref_watched) 88 = .ok (.iconst 3, 1) := dt_Ref_watched_c2 1
theorem d_Ref_watched_89 : decode (jm_cod M_Ref_watched) 89 = .ok (.if_icmp .ne 12, 3) := dt_Ref_watched_c2 2
theorem d_Ref_watched_92 : decode (jm_cod M_Ref_watched) 92 = .ok (.aload_n 0, 1) := dt_Ref_watched_c2 3
theorem d_Ref_watched_93 : decode (jm_cod M_Ref_watched) 93 = .ok (.getfield 235, 3) := dt_Ref_watched_c2 4
theorem d_Ref_watched_96 : decode (jm_cod M_Ref_watched) 96 = .ok (.iload_n 3, 1) := dt_Ref_watched_c2 5
theorem d_Ref_watched_97 : decode (jm_cod M_Ref_watched) 97 = .ok (.iaload, 1) := dt_Ref_watched_c2 6
theorem d_Ref_watched_98 : decode (jm_cod M_Ref_watched) 98 = .ok (.goto 23, 3) := dt_Ref_watched_c2 7
theorem d_Ref_watched_101 : decode (jm_cod M_Ref_watched) 101 = .ok (.iload_n 2, 1) := dt_Ref_watched_c2 8
theorem d_Ref_watched_102 : decode (jm_cod M_Ref_watched) 102 = .ok (.iconst 4, 1) := dt_Ref_watched_c2 9
theorem d_Ref_watched_103 : decode (jm_cod M_Ref_watched) 103 = .ok (.if_icmp .ne 12, 3) := dt_Ref_watched_c2 10
theorem d_Ref_watched_106 : decode (jm_cod M_Ref_watched) 106 = .ok (.aload_n 0, 1) := dt_Ref_watched_c2 11
theorem d_Ref_watched_107 : decode (jm_cod M_Ref_watched) 107 = .ok (.getfield 247, 3) := dt_Ref_watched_c2 12
theorem d_Ref_watched_110 : decode (jm_cod M_Ref_watched) 110 = .ok (.iload_n 3, 1) := dt_Ref_watched_c2 13
theorem d_Ref_watched_111 : decode (jm_cod M_Ref_watched) 111 = .ok (.iaload, 1) := dt_Ref_watched_c2 14
theorem d_Ref_watched_112 : decode (jm_cod M_Ref_watched) 112 = .ok (.goto 9, 3) := dt_Ref_watched_c2 15
theorem d_Ref_watched_115 : decode (jm_cod M_Ref_watched) 115 = .ok (.aload_n 0, 1) := dt_Ref_watched_c2 16
theorem d_Ref_watched_116 : decode (jm_cod M_Ref_watched) 116 = .ok (.getfield 250, 3) := dt_Ref_watched_c2 17
theorem d_Ref_watched_119 : decode (jm_cod M_Ref_watched) 119 = .ok (.iload_n 3, 1) := dt_Ref_watched_c2 18
theorem d_Ref_watched_120 : decode (jm_cod M_Ref_watched) 120 = .ok (.iaload, 1) := dt_Ref_watched_c2 19
theorem d_Ref_watched_121 : decode (jm_cod M_Ref_watched) 121 = .ok (.ireturn, 1) := dt_Ref_watched_c2 20
def tab_Ref_again_c0 : List (Nat × Instr × Nat) := [(0, .aload_n 0, 1), (1, .iload_n 1, 1), (2, .invokestatic 637, 3), (5, .ifCond .eq 7, 3), (8, .iconst 0, 1), (9, .goto 4, 3), (12, .iconst 1, 1), (13, .putfield 303, 3), (16, .aload_n 0, 1), (17, .getfield 303, 3), (20, .ifCond .ne 16, 3), (23, .aload_n 0, 1), (24, .bipush 8, 2), (26, .iload_n 1, 1), (27, .iadd, 1), (28, .invokevirtual 647, 3), (31, .aload_n 0, 1), (32, .iload_n 1, 1), (33, .invokevirtual 642, 3), (36, .return_, 1)]
theorem dt_Ref_again_c0 (i : Nat) : decode (jm_cod M_Ref_again) (tab_Ref_again_c0.getD i (0, .aload_n 0, 1)).1 = .ok ((tab_Ref_again_c0.getD i (0, .aload_n 0, 1)).2.1, (tab_Ref_again_c0.getD i (0, .aload_n 0, 1)).2.2) := j_tab (by decide +kernel) i
theorem d_Ref_again_0 : decode (jm_cod M_Ref_again) 0 = .ok (.aload_n 0, 1) := dt_Ref_again_c0 0
theorem d_Ref_again_1 : decode (jm_cod M_Ref_again) 1 = .ok (.iload_n 1, 1) := dt_Ref_again_c0 1
theorem d_Ref_again_2 : decode (jm_cod M_Ref_again) 2 = .ok (.invokestatic 637, 3) := dt_Ref_again_c0 2
theorem d_Ref_again_5 : decode (jm_cod M_Ref_again) 5 = .ok (.ifCond .eq 7, 3) := dt_Ref_again_c0 3
theorem d_Ref_again_8 : decode (jm_cod M_Ref_again) 8 = .ok (.iconst 0, 1) := dt_Ref_again_c0 4
theorem d_Ref_again_9 : decode (jm_cod M_Ref_again) 9 = .ok (.goto 4, 3) := dt_Ref_again_c0 5
theorem d_Ref_again_12 : decode (jm_cod M_Ref_again) 12 = .ok (.iconst 1, 1) := dt_Ref_again_c0 6
theorem d_Ref_again_13 : decode (jm_cod M_Ref_again) 13 = .ok (.putfield 303, 3) := dt_Ref_again_c0 7
theorem d_Ref_again_16 : decode (jm_cod M_Ref_again) 16 = .ok (.aload_n 0, 1) := dt_Ref_again_c0 8
theorem d_Ref_again_17 : decode (jm_cod M_Ref_again) 17 = .ok (.getfield 303, 3) := dt_Ref_again_c0 9
theorem d_Ref_again_20 : decode (jm_cod M_Ref_again) 20 = .ok (.ifCond .ne 16, 3) := dt_Ref_again_c0 10
theorem d_Ref_again_23 : decode (jm_cod M_Ref_again) 23 = .ok (.aload_n 0, 1) := dt_Ref_again_c0 11
theorem d_Ref_again_24 : decode (jm_cod M_Ref_again) 24 = .ok (.bipush 8, 2) := dt_Ref_again_c0 12
theorem d_Ref_again_26 : decode (jm_cod M_Ref_again) 26 = .ok (.iload_n 1, 1) := dt_Ref_again_c0 13
theorem d_Ref_again_27 : decode (jm_cod M_Ref_again) 27 = .ok (.iadd, 1) := dt_Ref_again_c0 14
theorem d_Ref_again_28 : decode (jm_cod M_Ref_again) 28 = .ok (.invokevirtual 647, 3) := dt_Ref_again_c0 15
theorem d_Ref_again_31 : decode (jm_cod M_Ref_again) 31 = .ok (.aload_n 0, 1) := dt_Ref_again_c0 16
theorem d_Ref_again_32 : decode (jm_cod M_Ref_again) 32 = .ok (.iload_n 1, 1) := dt_Ref_again_c0 17
theorem d_Ref_again_33 : decode (jm_cod M_Ref_again) 33 = .ok (.invokevirtual 642, 3) := dt_Ref_again_c0 18
theorem d_Ref_again_36 : decode (jm_cod M_Ref_again) 36 = .ok (.return_, 1) := dt_Ref_again_c0 19
