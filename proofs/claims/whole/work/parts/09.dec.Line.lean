def tab_Line_init_c0 : List (Nat × Instr × Nat) := [(0, .aload_n 0, 1), (1, .invokespecial 3, 3), (4, .aload_n 0, 1), (5, .iload_n 1, 1), (6, .anewarray 9, 3), (9, .putfield 11, 3), (12, .iconst 0, 1), (13, .istore_n 2, 1), (14, .iload_n 2, 1), (15, .iload_n 1, 1), (16, .if_icmp .ge 22, 3), (19, .aload_n 0, 1), (20, .getfield 11, 3), (23, .iload_n 2, 1), (24, .new 9, 3), (27, .dup, 1), (28, .invokespecial 17, 3), (31, .aastore, 1), (32, .iinc 2 1, 3), (35, .goto (-21), 3), (38, .return_, 1)]
theorem dt_Line_init_c0 (i : Nat) : decode (jm_cod M_Line_init) (tab_Line_init_c0.getD i (0, .aload_n 0, 1)).1 = .ok ((tab_Line_init_c0.getD i (0, .aload_n 0, 1)).2.1, (tab_Line_init_c0.getD i (0, .aload_n 0, 1)).2.2) := j_tab (by decide +kernel) i
theorem d_Line_init_0 : decode (jm_cod M_Line_init) 0 = .ok (.aload_n 0, 1) := dt_Line_init_c0 0
theorem d_Line_init_1 : decode (jm_cod M_Line_init) 1 = .ok (.invokespecial 3, 3) := dt_Line_init_c0 1
theorem d_Line_init_4 : decode (jm_cod M_Line_init) 4 = .ok (.aload_n 0, 1) := dt_Line_init_c0 2
theorem d_Line_init_5 : decode (jm_cod M_Line_init) 5 = .ok (.iload_n 1, 1) := dt_Line_init_c0 3
theorem d_Line_init_6 : decode (jm_cod M_Line_init) 6 = .ok (.anewarray 9, 3) := dt_Line_init_c0 4
theorem d_Line_init_9 : decode (jm_cod M_Line_init) 9 = .ok (.putfield 11, 3) := dt_Line_init_c0 5
theorem d_Line_init_12 : decode (jm_cod M_Line_init) 12 = .ok (.iconst 0, 1) := dt_Line_init_c0 6
theorem d_Line_init_13 : decode (jm_cod M_Line_init) 13 = .ok (.istore_n 2, 1) := dt_Line_init_c0 7
theorem d_Line_init_14 : decode (jm_cod M_Line_init) 14 = .ok (.iload_n 2, 1) := dt_Line_init_c0 8
theorem d_Line_init_15 : decode (jm_cod M_Line_init) 15 = .ok (.iload_n 1, 1) := dt_Line_init_c0 9
theorem d_Line_init_16 : decode (jm_cod M_Line_init) 16 = .ok (.if_icmp .ge 22, 3) := dt_Line_init_c0 10
theorem d_Line_init_19 : decode (jm_cod M_Line_init) 19 = .ok (.aload_n 0, 1) := dt_Line_init_c0 11
theorem d_Line_init_20 : decode (jm_cod M_Line_init) 20 = .ok (.getfield 11, 3) := dt_Line_init_c0 12
theorem d_Line_init_23 : decode (jm_cod M_Line_init) 23 = .ok (.iload_n 2, 1) := dt_Line_init_c0 13
theorem d_Line_init_24 : decode (jm_cod M_Line_init) 24 = .ok (.new 9, 3) := dt_Line_init_c0 14
theorem d_Line_init_27 : decode (jm_cod M_Line_init) 27 = .ok (.dup, 1) := dt_Line_init_c0 15
theorem d_Line_init_28 : decode (jm_cod M_Line_init) 28 = .ok (.invokespecial 17, 3) := dt_Line_init_c0 16
theorem d_Line_init_31 : decode (jm_cod M_Line_init) 31 = .ok (.aastore, 1) := dt_Line_init_c0 17
theorem d_Line_init_32 : decode (jm_cod M_Line_init) 32 = .ok (.iinc 2 1, 3) := dt_Line_init_c0 18
theorem d_Line_init_35 : decode (jm_cod M_Line_init) 35 = .ok (.goto (-21), 3) := dt_Line_init_c0 19
theorem d_Line_init_38 : decode (jm_cod M_Line_init) 38 = .ok (.return_, 1) := dt_Line_init_c0 20
def tab_Line_firstAnswerable_c0 : List (Nat × Instr × Nat) := [(0, .iconst 0, 1), (1, .istore_n 2, 1), (2, .iload_n 2, 1), (3, .aload_n 0, 1), (4, .getfield 18, 3), (7, .if_icmp .ge 43, 3), (10, .aload_n 0, 1), (11, .getfield 11, 3), (14, .iload_n 2, 1), (15, .aaload, 1), (16, .astore_n 3, 1), (17, .aload_n 3, 1), (18, .getfield 38, 3), (21, .ifCond .eq 23, 3), (24, .aload_n 3, 1), (25, .getfield 42, 3), (28, .ifCond .eq 16, 3), (31, .aload_n 3, 1), (32, .getfield 30, 3), (35, .invokestatic 34, 3), (38, .iload_n 1, 1), (39, .if_icmp .ne 5, 3), (42, .iload_n 2, 1), (43, .ireturn, 1)]
theorem dt_Line_firstAnswerable_c0 (i : Nat) : decode (jm_cod M_Line_firstAnswerable) (tab_Line_firstAnswerable_c0.getD i (0, .iconst 0, 1)).1 = .ok ((tab_Line_firstAnswerable_c0.getD i (0, .iconst 0, 1)).2.1, (tab_Line_firstAnswerable_c0.getD i (0, .iconst 0, 1)).2.2) := j_tab (by decide +kernel) i
theorem d_Line_firstAnswerable_0 : decode (jm_cod M_Line_firstAnswerable) 0 = .ok (.iconst 0, 1) := dt_Line_firstAnswerable_c0 0
theorem d_Line_firstAnswerable_1 : decode (jm_cod M_Line_firstAnswerable) 1 = .ok (.istore_n 2, 1) := dt_Line_firstAnswerable_c0 1
theorem d_Line_firstAnswerable_2 : decode (jm_cod M_Line_firstAnswerable) 2 = .ok (.iload_n 2, 1) := dt_Line_firstAnswerable_c0 2
theorem d_Line_firstAnswerable_3 : decode (jm_cod M_Line_firstAnswerable) 3 = .ok (.aload_n 0, 1) := dt_Line_firstAnswerable_c0 3
theorem d_Line_firstAnswerable_4 : decode (jm_cod M_Line_firstAnswerable) 4 = .ok (.getfield 18, 3) := dt_Line_firstAnswerable_c0 4
theorem d_Line_firstAnswerable_7 : decode (jm_cod M_Line_firstAnswerable) 7 = .ok (.if_icmp .ge 43, 3) := dt_Line_firstAnswerable_c0 5
theorem d_Line_firstAnswerable_10 : decode (jm_cod M_Line_firstAnswerable) 10 = .ok (.aload_n 0, 1) := dt_Line_firstAnswerable_c0 6
theorem d_Line_firstAnswerable_11 : decode (jm_cod M_Line_firstAnswerable) 11 = .ok (.getfield 11, 3) := dt_Line_firstAnswerable_c0 7
theorem d_Line_firstAnswerable_14 : decode (jm_cod M_Line_firstAnswerable) 14 = .ok (.iload_n 2, 1) := dt_Line_firstAnswerable_c0 8
theorem d_Line_firstAnswerable_15 : decode (jm_cod M_Line_firstAnswerable) 15 = .ok (.aaload, 1) := dt_Line_firstAnswerable_c0 9
theorem d_Line_firstAnswerable_16 : decode (jm_cod M_Line_firstAnswerable) 16 = .ok (.astore_n 3, 1) := dt_Line_firstAnswerable_c0 10
theorem d_Line_firstAnswerable_17 : decode (jm_cod M_Line_firstAnswerable) 17 = .ok (.aload_n 3, 1) := dt_Line_firstAnswerable_c0 11
theorem d_Line_firstAnswerable_18 : decode (jm_cod M_Line_firstAnswerable) 18 = .ok (.getfield 38, 3) := dt_Line_firstAnswerable_c0 12
theorem d_Line_firstAnswerable_21 : decode (jm_cod M_Line_firstAnswerable) 21 = .ok (.ifCond .eq 23, 3) := dt_Line_firstAnswerable_c0 13
theorem d_Line_firstAnswerable_24 : decode (jm_cod M_Line_firstAnswerable) 24 = .ok (.aload_n 3, 1) := dt_Line_firstAnswerable_c0 14
theorem d_Line_firstAnswerable_25 : decode (jm_cod M_Line_firstAnswerable) 25 = .ok (.getfield 42, 3) := dt_Line_firstAnswerable_c0 15
theorem d_Line_firstAnswerable_28 : decode (jm_cod M_Line_firstAnswerable) 28 = .ok (.ifCond .eq 16, 3) := dt_Line_firstAnswerable_c0 16
theorem d_Line_firstAnswerable_31 : decode (jm_cod M_Line_firstAnswerable) 31 = .ok (.aload_n 3, 1) := dt_Line_firstAnswerable_c0 17
theorem d_Line_firstAnswerable_32 : decode (jm_cod M_Line_firstAnswerable) 32 = .ok (.getfield 30, 3) := dt_Line_firstAnswerable_c0 18
theorem d_Line_firstAnswerable_35 : decode (jm_cod M_Line_firstAnswerable) 35 = .ok (.invokestatic 34, 3) := dt_Line_firstAnswerable_c0 19
theorem d_Line_firstAnswerable_38 : decode (jm_cod M_Line_firstAnswerable) 38 = .ok (.iload_n 1, 1) := dt_Line_firstAnswerable_c0 20
theorem d_Line_firstAnswerable_39 : decode (jm_cod M_Line_firstAnswerable) 39 = .ok (.if_icmp .ne 5, 3) := dt_Line_firstAnswerable_c0 21
theorem d_Line_firstAnswerable_42 : decode (jm_cod M_Line_firstAnswerable) 42 = .ok (.iload_n 2, 1) := dt_Line_firstAnswerable_c0 22
theorem d_Line_firstAnswerable_43 : decode (jm_cod M_Line_firstAnswerable) 43 = .ok (.ireturn, 1) := dt_Line_firstAnswerable_c0 23
def tab_Line_firstAnswerable_c1 : List (Nat × Instr × Nat) := [(44, .iinc 2 1, 3), (47, .goto (-45), 3), (50, .iconst (-1), 1), (51, .ireturn, 1)]
theorem dt_Line_firstAnswerable_c1 (i : Nat) : decode (jm_cod M_Line_firstAnswerable) (tab_Line_firstAnswerable_c1.getD i (44, .iinc 2 1, 3)).1 = .ok ((tab_Line_firstAnswerable_c1.getD i (44, .iinc 2 1, 3)).2.1, (tab_Line_firstAnswerable_c1.getD i (44, .iinc 2 1, 3)).2.2) := j_tab (by decide +kernel) i
theorem d_Line_firstAnswerable_44 : decode (jm_cod M_Line_firstAnswerable) 44 = .ok (.iinc 2 1, 3) := dt_Line_firstAnswerable_c1 0
theorem d_Line_firstAnswerable_47 : decode (jm_cod M_Line_firstAnswerable) 47 = .ok (.goto (-45), 3) := dt_Line_firstAnswerable_c1 1
theorem d_Line_firstAnswerable_50 : decode (jm_cod M_Line_firstAnswerable) 50 = .ok (.iconst (-1), 1) := dt_Line_firstAnswerable_c1 2
theorem d_Line_firstAnswerable_51 : decode (jm_cod M_Line_firstAnswerable) 51 = .ok (.ireturn, 1) := dt_Line_firstAnswerable_c1 3
def tab_Line_at_c0 : List (Nat × Instr × Nat) := [(0, .iload_n 1, 1), (1, .ifCond .lt 11, 3), (4, .iload_n 1, 1), (5, .aload_n 0, 1), (6, .getfield 18, 3), (9, .if_icmp .lt 7, 3), (12, .aconst_null, 1), (13, .goto 9, 3), (16, .aload_n 0, 1), (17, .getfield 11, 3), (20, .iload_n 1, 1), (21, .aaload, 1), (22, .areturn, 1)]
theorem dt_Line_at_c0 (i : Nat) : decode (jm_cod M_Line_at) (tab_Line_at_c0.getD i (0, .iload_n 1, 1)).1 = .ok ((tab_Line_at_c0.getD i (0, .iload_n 1, 1)).2.1, (tab_Line_at_c0.getD i (0, .iload_n 1, 1)).2.2) := j_tab (by decide +kernel) i
theorem d_Line_at_0 : decode (jm_cod M_Line_at) 0 = .ok (.iload_n 1, 1) := dt_Line_at_c0 0
theorem d_Line_at_1 : decode (jm_cod M_Line_at) 1 = .ok (.ifCond .lt 11, 3) := dt_Line_at_c0 1
theorem d_Line_at_4 : decode (jm_cod M_Line_at) 4 = .ok (.iload_n 1, 1) := dt_Line_at_c0 2
theorem d_Line_at_5 : decode (jm_cod M_Line_at) 5 = .ok (.aload_n 0, 1) := dt_Line_at_c0 3
theorem d_Line_at_6 : decode (jm_cod M_Line_at) 6 = .ok (.getfield 18, 3) := dt_Line_at_c0 4
theorem d_Line_at_9 : decode (jm_cod M_Line_at) 9 = .ok (.if_icmp .lt 7, 3) := dt_Line_at_c0 5
theorem d_Line_at_12 : decode (jm_cod M_Line_at) 12 = .ok (.aconst_null, 1) := dt_Line_at_c0 6
theorem d_Line_at_13 : decode (jm_cod M_Line_at) 13 = .ok (.goto 9, 3) := dt_Line_at_c0 7
theorem d_Line_at_16 : decode (jm_cod M_Line_at) 16 = .ok (.aload_n 0, 1) := dt_Line_at_c0 8
theorem d_Line_at_17 : decode (jm_cod M_Line_at) 17 = .ok (.getfield 11, 3) := dt_Line_at_c0 9
theorem d_Line_at_20 : decode (jm_cod M_Line_at) 20 = .ok (.iload_n 1, 1) := dt_Line_at_c0 10
theorem d_Line_at_21 : decode (jm_cod M_Line_at) 21 = .ok (.aaload, 1) := dt_Line_at_c0 11
theorem d_Line_at_22 : decode (jm_cod M_Line_at) 22 = .ok (.areturn, 1) := dt_Line_at_c0 12
def tab_Line_firstWithId_c0 : List (Nat × Instr × Nat) := [(0, .iconst 0, 1), (1, .istore_n 2, 1), (2, .iload_n 2, 1), (3, .aload_n 0, 1), (4, .getfield 18, 3), (7, .if_icmp .ge 27, 3), (10, .aload_n 0, 1), (11, .getfield 11, 3), (14, .iload_n 2, 1), (15, .aaload, 1), (16, .getfield 30, 3), (19, .invokestatic 34, 3), (22, .iload_n 1, 1), (23, .if_icmp .ne 5, 3), (26, .iload_n 2, 1), (27, .ireturn, 1), (28, .iinc 2 1, 3), (31, .goto (-29), 3), (34, .iconst (-1), 1), (35, .ireturn, 1)]
theorem dt_Line_firstWithId_c0 (i : Nat) : decode (jm_cod M_Line_firstWithId) (tab_Line_firstWithId_c0.getD i (0, .iconst 0, 1)).1 = .ok ((tab_Line_firstWithId_c0.getD i (0, .iconst 0, 1)).2.1, (tab_Line_firstWithId_c0.getD i (0, .iconst 0, 1)).2.2) := j_tab (by decide +kernel) i
theorem d_Line_firstWithId_0 : decode (jm_cod M_Line_firstWithId) 0 = .ok (.iconst 0, 1) := dt_Line_firstWithId_c0 0
theorem d_Line_firstWithId_1 : decode (jm_cod M_Line_firstWithId) 1 = .ok (.istore_n 2, 1) := dt_Line_firstWithId_c0 1
theorem d_Line_firstWithId_2 : decode (jm_cod M_Line_firstWithId) 2 = .ok (.iload_n 2, 1) := dt_Line_firstWithId_c0 2
theorem d_Line_firstWithId_3 : decode (jm_cod M_Line_firstWithId) 3 = .ok (.aload_n 0, 1) := dt_Line_firstWithId_c0 3
theorem d_Line_firstWithId_4 : decode (jm_cod M_Line_firstWithId) 4 = .ok (.getfield 18, 3) := dt_Line_firstWithId_c0 4
theorem d_Line_firstWithId_7 : decode (jm_cod M_Line_firstWithId) 7 = .ok (.if_icmp .ge 27, 3) := dt_Line_firstWithId_c0 5
theorem d_Line_firstWithId_10 : decode (jm_cod M_Line_firstWithId) 10 = .ok (.aload_n 0, 1) := dt_Line_firstWithId_c0 6
theorem d_Line_firstWithId_11 : decode (jm_cod M_Line_firstWithId) 11 = .ok (.getfield 11, 3) := dt_Line_firstWithId_c0 7
theorem d_Line_firstWithId_14 : decode (jm_cod M_Line_firstWithId) 14 = .ok (.iload_n 2, 1) := dt_Line_firstWithId_c0 8
theorem d_Line_firstWithId_15 : decode (jm_cod M_Line_firstWithId) 15 = .ok (.aaload, 1) := dt_Line_firstWithId_c0 9
theorem d_Line_firstWithId_16 : decode (jm_cod M_Line_firstWithId) 16 = .ok (.getfield 30, 3) := dt_Line_firstWithId_c0 10
theorem d_Line_firstWithId_19 : decode (jm_cod M_Line_firstWithId) 19 = .ok (.invokestatic 34, 3) := dt_Line_firstWithId_c0 11
theorem d_Line_firstWithId_22 : decode (jm_cod M_Line_firstWithId) 22 = .ok (.iload_n 1, 1) := dt_Line_firstWithId_c0 12
theorem d_Line_firstWithId_23 : decode (jm_cod M_Line_firstWithId) 23 = .ok (.if_icmp .ne 5, 3) := dt_Line_firstWithId_c0 13
theorem d_Line_firstWithId_26 : decode (jm_cod M_Line_firstWithId) 26 = .ok (.iload_n 2, 1) := dt_Line_firstWithId_c0 14
theorem d_Line_firstWithId_27 : decode (jm_cod M_Line_firstWithId) 27 = .ok (.ireturn, 1) := dt_Line_firstWithId_c0 15
theorem d_Line_firstWithId_28 : decode (jm_cod M_Line_firstWithId) 28 = .ok (.iinc 2 1, 3) := dt_Line_firstWithId_c0 16
theorem d_Line_firstWithId_31 : decode (jm_cod M_Line_firstWithId) 31 = .ok (.goto (-29), 3) := dt_Line_firstWithId_c0 17
theorem d_Line_firstWithId_34 : decode (jm_cod M_Line_firstWithId) 34 = .ok (.iconst (-1), 1) := dt_Line_firstWithId_c0 18
theorem d_Line_firstWithId_35 : decode (jm_cod M_Line_firstWithId) 35 = .ok (.ireturn, 1) := dt_Line_firstWithId_c0 19
def tab_Line_remove_c0 : List (Nat × Instr × Nat) := [(0, .iload_n 1, 1), (1, .ifCond .lt 11, 3), (4, .iload_n 1, 1), (5, .aload_n 0, 1), (6, .getfield 18, 3), (9, .if_icmp .lt 4, 3), (12, .return_, 1), (13, .aload_n 0, 1), (14, .getfield 11, 3), (17, .iload_n 1, 1), (18, .aaload, 1), (19, .astore_n 2, 1), (20, .iload_n 1, 1), (21, .iconst 1, 1), (22, .iadd, 1), (23, .istore_n 3, 1), (24, .iload_n 3, 1), (25, .aload_n 0, 1), (26, .getfield 18, 3), (29, .if_icmp .ge 23, 3), (32, .aload_n 0, 1), (33, .getfield 11, 3), (36, .iload_n 3, 1), (37, .iconst 1, 1)]
theorem dt_Line_remove_c0 (i : Nat) : decode (jm_cod M_Line_remove) (tab_Line_remove_c0.getD i (0, .iload_n 1, 1)).1 = .ok ((tab_Line_remove_c0.getD i (0, .iload_n 1, 1)).2.1, (tab_Line_remove_c0.getD i (0, .iload_n 1, 1)).2.2) := j_tab (by decide +kernel) i
theorem d_Line_remove_0 : decode (jm_cod M_Line_remove) 0 = .ok (.iload_n 1, 1) := dt_Line_remove_c0 0
theorem d_Line_remove_1 : decode (jm_cod M_Line_remove) 1 = .ok (.ifCond .lt 11, 3) := dt_Line_remove_c0 1
theorem d_Line_remove_4 : decode (jm_cod M_Line_remove) 4 = .ok (.iload_n 1, 1) := dt_Line_remove_c0 2
theorem d_Line_remove_5 : decode (jm_cod M_Line_remove) 5 = .ok (.aload_n 0, 1) := dt_Line_remove_c0 3
theorem d_Line_remove_6 : decode (jm_cod M_Line_remove) 6 = .ok (.getfield 18, 3) := dt_Line_remove_c0 4
theorem d_Line_remove_9 : decode (jm_cod M_Line_remove) 9 = .ok (.if_icmp .lt 4, 3) := dt_Line_remove_c0 5
theorem d_Line_remove_12 : decode (jm_cod M_Line_remove) 12 = .ok (.return_, 1) := dt_Line_remove_c0 6
theorem d_Line_remove_13 : decode (jm_cod M_Line_remove) 13 = .ok (.aload_n 0, 1) := dt_Line_remove_c0 7
theorem d_Line_remove_14 : decode (jm_cod M_Line_remove) 14 = .ok (.getfield 11, 3) := dt_Line_remove_c0 8
theorem d_Line_remove_17 : decode (jm_cod M_Line_remove) 17 = .ok (.iload_n 1, 1) := dt_Line_remove_c0 9
theorem d_Line_remove_18 : decode (jm_cod M_Line_remove) 18 = .ok (.aaload, 1) := dt_Line_remove_c0 10
theorem d_Line_remove_19 : decode (jm_cod M_Line_remove) 19 = .ok (.astore_n 2, 1) := dt_Line_remove_c0 11
theorem d_Line_remove_20 : decode (jm_cod M_Line_remove) 20 = .ok (.iload_n 1, 1) := dt_Line_remove_c0 12
theorem d_Line_remove_21 : decode (jm_cod M_Line_remove) 21 = .ok (.iconst 1, 1) := dt_Line_remove_c0 13
theorem d_Line_remove_22 : decode (jm_cod M_Line_remove) 22 = .ok (.iadd, 1) := dt_Line_remove_c0 14
theorem d_Line_remove_23 : decode (jm_cod M_Line_remove) 23 = .ok (.istore_n 3, 1) := dt_Line_remove_c0 15
theorem d_Line_remove_24 : decode (jm_cod M_Line_remove) 24 = .ok (.iload_n 3, 1) := dt_Line_remove_c0 16
theorem d_Line_remove_25 : decode (jm_cod M_Line_remove) 25 = .ok (.aload_n 0, 1) := dt_Line_remove_c0 17
theorem d_Line_remove_26 : decode (jm_cod M_Line_remove) 26 = .ok (.getfield 18, 3) := dt_Line_remove_c0 18
theorem d_Line_remove_29 : decode (jm_cod M_Line_remove) 29 = .ok (.if_icmp .ge 23, 3) := dt_Line_remove_c0 19
theorem d_Line_remove_32 : decode (jm_cod M_Line_remove) 32 = .ok (.aload_n 0, 1) := dt_Line_remove_c0 20
theorem d_Line_remove_33 : decode (jm_cod M_Line_remove) 33 = .ok (.getfield 11, 3) := dt_Line_remove_c0 21
theorem d_Line_remove_36 : decode (jm_cod M_Line_remove) 36 = .ok (.iload_n 3, 1) := dt_Line_remove_c0 22
theorem d_Line_remove_37 : decode (jm_cod M_Line_remove) 37 = .ok (.iconst 1, 1) := dt_Line_remove_c0 23
def tab_Line_remove_c1 : List (Nat × Instr × Nat) := [(38, .isub, 1), (39, .aload_n 0, 1), (40, .getfield 11, 3), (43, .iload_n 3, 1), (44, .aaload, 1), (45, .aastore, 1), (46, .iinc 3 1, 3), (49, .goto (-25), 3), (52, .aload_n 0, 1), (53, .dup, 1), (54, .getfield 18, 3), (57, .iconst 1, 1), (58, .isub, 1), (59, .putfield 18, 3), (62, .aload_n 0, 1), (63, .getfield 11, 3), (66, .aload_n 0, 1), (67, .getfield 18, 3), (70, .aload_n 2, 1), (71, .aastore, 1), (72, .return_, 1)]
theorem dt_Line_remove_c1 (i : Nat) : decode (jm_cod M_Line_remove) (tab_Line_remove_c1.getD i (38, .isub, 1)).1 = .ok ((tab_Line_remove_c1.getD i (38, .isub, 1)).2.1, (tab_Line_remove_c1.getD i (38, .isub, 1)).2.2) := j_tab (by decide +kernel) i
theorem d_Line_remove_38 : decode (jm_cod M_Line_remove) 38 = .ok (.isub, 1) := dt_Line_remove_c1 0
theorem d_Line_remove_39 : decode (jm_cod M_Line_remove) 39 = .ok (.aload_n 0, 1) := dt_Line_remove_c1 1
theorem d_Line_remove_40 : decode (jm_cod M_Line_remove) 40 = .ok (.getfield 11, 3) := dt_Line_remove_c1 2
theorem d_Line_remove_43 : decode (jm_cod M_Line_remove) 43 = .ok (.iload_n 3, 1) := dt_Line_remove_c1 3
theorem d_Line_remove_44 : decode (jm_cod M_Line_remove) 44 = .ok (.aaload, 1) := dt_Line_remove_c1 4
theorem d_Line_remove_45 : decode (jm_cod M_Line_remove) 45 = .ok (.aastore, 1) := dt_Line_remove_c1 5
theorem d_Line_remove_46 : decode (jm_cod M_Line_remove) 46 = .ok (.iinc 3 1, 3) := dt_Line_remove_c1 6
theorem d_Line_remove_49 : decode (jm_cod M_Line_remove) 49 = .ok (.goto (-25), 3) := dt_Line_remove_c1 7
theorem d_Line_remove_52 : decode (jm_cod M_Line_remove) 52 = .ok (.aload_n 0, 1) := dt_Line_remove_c1 8
theorem d_Line_remove_53 : decode (jm_cod M_Line_remove) 53 = .ok (.dup, 1) := dt_Line_remove_c1 9
theorem d_Line_remove_54 : decode (jm_cod M_Line_remove) 54 = .ok (.getfield 18, 3) := dt_Line_remove_c1 10
theorem d_Line_remove_57 : decode (jm_cod M_Line_remove) 57 = .ok (.iconst 1, 1) := dt_Line_remove_c1 11
theorem d_Line_remove_58 : decode (jm_cod M_Line_remove) 58 = .ok (.isub, 1) := dt_Line_remove_c1 12
theorem d_Line_remove_59 : decode (jm_cod M_Line_remove) 59 = .ok (.putfield 18, 3) := dt_Line_remove_c1 13
theorem d_Line_remove_62 : decode (jm_cod M_Line_remove) 62 = .ok (.aload_n 0, 1) := dt_Line_remove_c1 14
theorem d_Line_remove_63 : decode (jm_cod M_Line_remove) 63 = .ok (.getfield 11, 3) := dt_Line_remove_c1 15
theorem d_Line_remove_66 : decode (jm_cod M_Line_remove) 66 = .ok (.aload_n 0, 1) := dt_Line_remove_c1 16
theorem d_Line_remove_67 : decode (jm_cod M_Line_remove) 67 = .ok (.getfield 18, 3) := dt_Line_remove_c1 17
theorem d_Line_remove_70 : decode (jm_cod M_Line_remove) 70 = .ok (.aload_n 2, 1) := dt_Line_remove_c1 18
theorem d_Line_remove_71 : decode (jm_cod M_Line_remove) 71 = .ok (.aastore, 1) := dt_Line_remove_c1 19
theorem d_Line_remove_72 : decode (jm_cod M_Line_remove) 72 = .ok (.return_, 1) := dt_Line_remove_c1 20
def tab_Line_add_c0 : List (Nat × Instr × Nat) := [(0, .aload_n 0, 1), (1, .invokevirtual 22, 3), (4, .ifCond .ne 5, 3), (7, .aconst_null, 1), (8, .areturn, 1), (9, .aload_n 0, 1), (10, .getfield 11, 3), (13, .aload_n 0, 1), (14, .getfield 18, 3), (17, .aaload, 1), (18, .astore_n 3, 1), (19, .aload_n 3, 1), (20, .lload_n 1, 1), (21, .invokevirtual 26, 3), (24, .aload_n 0, 1), (25, .dup, 1), (26, .getfield 18, 3), (29, .iconst 1, 1), (30, .iadd, 1), (31, .putfield 18, 3), (34, .aload_n 3, 1), (35, .areturn, 1)]
theorem dt_Line_add_c0 (i : Nat) : decode (jm_cod M_Line_add) (tab_Line_add_c0.getD i (0, .aload_n 0, 1)).1 = .ok ((tab_Line_add_c0.getD i (0, .aload_n 0, 1)).2.1, (tab_Line_add_c0.getD i (0, .aload_n 0, 1)).2.2) := j_tab (by decide +kernel) i
theorem d_Line_add_0 : decode (jm_cod M_Line_add) 0 = .ok (.aload_n 0, 1) := dt_Line_add_c0 0
theorem d_Line_add_1 : decode (jm_cod M_Line_add) 1 = .ok (.invokevirtual 22, 3) := dt_Line_add_c0 1
theorem d_Line_add_4 : decode (jm_cod M_Line_add) 4 = .ok (.ifCond .ne 5, 3) := dt_Line_add_c0 2
theorem d_Line_add_7 : decode (jm_cod M_Line_add) 7 = .ok (.aconst_null, 1) := dt_Line_add_c0 3
theorem d_Line_add_8 : decode (jm_cod M_Line_add) 8 = .ok (.areturn, 1) := dt_Line_add_c0 4
theorem d_Line_add_9 : decode (jm_cod M_Line_add) 9 = .ok (.aload_n 0, 1) := dt_Line_add_c0 5
theorem d_Line_add_10 : decode (jm_cod M_Line_add) 10 = .ok (.getfield 11, 3) := dt_Line_add_c0 6
theorem d_Line_add_13 : decode (jm_cod M_Line_add) 13 = .ok (.aload_n 0, 1) := dt_Line_add_c0 7
theorem d_Line_add_14 : decode (jm_cod M_Line_add) 14 = .ok (.getfield 18, 3) := dt_Line_add_c0 8
theorem d_Line_add_17 : decode (jm_cod M_Line_add) 17 = .ok (.aaload, 1) := dt_Line_add_c0 9
theorem d_Line_add_18 : decode (jm_cod M_Line_add) 18 = .ok (.astore_n 3, 1) := dt_Line_add_c0 10
theorem d_Line_add_19 : decode (jm_cod M_Line_add) 19 = .ok (.aload_n 3, 1) := dt_Line_add_c0 11
theorem d_Line_add_20 : decode (jm_cod M_Line_add) 20 = .ok (.lload_n 1, 1) := dt_Line_add_c0 12
theorem d_Line_add_21 : decode (jm_cod M_Line_add) 21 = .ok (.invokevirtual 26, 3) := dt_Line_add_c0 13
theorem d_Line_add_24 : decode (jm_cod M_Line_add) 24 = .ok (.aload_n 0, 1) := dt_Line_add_c0 14
theorem d_Line_add_25 : decode (jm_cod M_Line_add) 25 = .ok (.dup, 1) := dt_Line_add_c0 15
theorem d_Line_add_26 : decode (jm_cod M_Line_add) 26 = .ok (.getfield 18, 3) := dt_Line_add_c0 16
theorem d_Line_add_29 : decode (jm_cod M_Line_add) 29 = .ok (.iconst 1, 1) := dt_Line_add_c0 17
theorem d_Line_add_30 : decode (jm_cod M_Line_add) 30 = .ok (.iadd, 1) := dt_Line_add_c0 18
theorem d_Line_add_31 : decode (jm_cod M_Line_add) 31 = .ok (.putfield 18, 3) := dt_Line_add_c0 19
theorem d_Line_add_34 : decode (jm_cod M_Line_add) 34 = .ok (.aload_n 3, 1) := dt_Line_add_c0 20
theorem d_Line_add_35 : decode (jm_cod M_Line_add) 35 = .ok (.areturn, 1) := dt_Line_add_c0 21
def tab_Line_hasRoom_c0 : List (Nat × Instr × Nat) := [(0, .aload_n 0, 1), (1, .getfield 18, 3), (4, .aload_n 0, 1), (5, .getfield 11, 3), (8, .arraylength, 1), (9, .if_icmp .ge 7, 3), (12, .iconst 1, 1), (13, .goto 4, 3), (16, .iconst 0, 1), (17, .ireturn, 1)]
theorem dt_Line_hasRoom_c0 (i : Nat) : decode (jm_cod M_Line_hasRoom) (tab_Line_hasRoom_c0.getD i (0, .aload_n 0, 1)).1 = .ok ((tab_Line_hasRoom_c0.getD i (0, .aload_n 0, 1)).2.1, (tab_Line_hasRoom_c0.getD i (0, .aload_n 0, 1)).2.2) := j_tab (by decide +kernel) i
theorem d_Line_hasRoom_0 : decode (jm_cod M_Line_hasRoom) 0 = .ok (.aload_n 0, 1) := dt_Line_hasRoom_c0 0
theorem d_Line_hasRoom_1 : decode (jm_cod M_Line_hasRoom) 1 = .ok (.getfield 18, 3) := dt_Line_hasRoom_c0 1
theorem d_Line_hasRoom_4 : decode (jm_cod M_Line_hasRoom) 4 = .ok (.aload_n 0, 1) := dt_Line_hasRoom_c0 2
theorem d_Line_hasRoom_5 : decode (jm_cod M_Line_hasRoom) 5 = .ok (.getfield 11, 3) := dt_Line_hasRoom_c0 3
theorem d_Line_hasRoom_8 : decode (jm_cod M_Line_hasRoom) 8 = .ok (.arraylength, 1) := dt_Line_hasRoom_c0 4
theorem d_Line_hasRoom_9 : decode (jm_cod M_Line_hasRoom) 9 = .ok (.if_icmp .ge 7, 3) := dt_Line_hasRoom_c0 5
theorem d_Line_hasRoom_12 : decode (jm_cod M_Line_hasRoom) 12 = .ok (.iconst 1, 1) := dt_Line_hasRoom_c0 6
theorem d_Line_hasRoom_13 : decode (jm_cod M_Line_hasRoom) 13 = .ok (.goto 4, 3) := dt_Line_hasRoom_c0 7
theorem d_Line_hasRoom_16 : decode (jm_cod M_Line_hasRoom) 16 = .ok (.iconst 0, 1) := dt_Line_hasRoom_c0 8
theorem d_Line_hasRoom_17 : decode (jm_cod M_Line_hasRoom) 17 = .ok (.ireturn, 1) := dt_Line_hasRoom_c0 9
def tab_Line_firstUnaddressed_c0 : List (Nat × Instr × Nat) := [(0, .iconst 0, 1), (1, .istore_n 1, 1), (2, .iload_n 1, 1), (3, .aload_n 0, 1), (4, .getfield 18, 3), (7, .if_icmp .ge 23, 3), (10, .aload_n 0, 1), (11, .getfield 11, 3), (14, .iload_n 1, 1), (15, .aaload, 1), (16, .getfield 38, 3), (19, .ifCond .ne 5, 3), (22, .iload_n 1, 1), (23, .ireturn, 1), (24, .iinc 1 1, 3), (27, .goto (-25), 3), (30, .iconst (-1), 1), (31, .ireturn, 1)]
theorem dt_Line_firstUnaddressed_c0 (i : Nat) : decode (jm_cod M_Line_firstUnaddressed) (tab_Line_firstUnaddressed_c0.getD i (0, .iconst 0, 1)).1 = .ok ((tab_Line_firstUnaddressed_c0.getD i (0, .iconst 0, 1)).2.1, (tab_Line_firstUnaddressed_c0.getD i (0, .iconst 0, 1)).2.2) := j_tab (by decide +kernel) i
theorem d_Line_firstUnaddressed_0 : decode (jm_cod M_Line_firstUnaddressed) 0 = .ok (.iconst 0, 1) := dt_Line_firstUnaddressed_c0 0
theorem d_Line_firstUnaddressed_1 : decode (jm_cod M_Line_firstUnaddressed) 1 = .ok (.istore_n 1, 1) := dt_Line_firstUnaddressed_c0 1
theorem d_Line_firstUnaddressed_2 : decode (jm_cod M_Line_firstUnaddressed) 2 = .ok (.iload_n 1, 1) := dt_Line_firstUnaddressed_c0 2
theorem d_Line_firstUnaddressed_3 : decode (jm_cod M_Line_firstUnaddressed) 3 = .ok (.aload_n 0, 1) := dt_Line_firstUnaddressed_c0 3
theorem d_Line_firstUnaddressed_4 : decode (jm_cod M_Line_firstUnaddressed) 4 = .ok (.getfield 18, 3) := dt_Line_firstUnaddressed_c0 4
theorem d_Line_firstUnaddressed_7 : decode (jm_cod M_Line_firstUnaddressed) 7 = .ok (.if_icmp .ge 23, 3) := dt_Line_firstUnaddressed_c0 5
theorem d_Line_firstUnaddressed_10 : decode (jm_cod M_Line_firstUnaddressed) 10 = .ok (.aload_n 0, 1) := dt_Line_firstUnaddressed_c0 6
theorem d_Line_firstUnaddressed_11 : decode (jm_cod M_Line_firstUnaddressed) 11 = .ok (.getfield 11, 3) := dt_Line_firstUnaddressed_c0 7
theorem d_Line_firstUnaddressed_14 : decode (jm_cod M_Line_firstUnaddressed) 14 = .ok (.iload_n 1, 1) := dt_Line_firstUnaddressed_c0 8
theorem d_Line_firstUnaddressed_15 : decode (jm_cod M_Line_firstUnaddressed) 15 = .ok (.aaload, 1) := dt_Line_firstUnaddressed_c0 9
theorem d_Line_firstUnaddressed_16 : decode (jm_cod M_Line_firstUnaddressed) 16 = .ok (.getfield 38, 3) := dt_Line_firstUnaddressed_c0 10
theorem d_Line_firstUnaddressed_19 : decode (jm_cod M_Line_firstUnaddressed) 19 = .ok (.ifCond .ne 5, 3) := dt_Line_firstUnaddressed_c0 11
theorem d_Line_firstUnaddressed_22 : decode (jm_cod M_Line_firstUnaddressed) 22 = .ok (.iload_n 1, 1) := dt_Line_firstUnaddressed_c0 12
theorem d_Line_firstUnaddressed_23 : decode (jm_cod M_Line_firstUnaddressed) 23 = .ok (.ireturn, 1) := dt_Line_firstUnaddressed_c0 13
theorem d_Line_firstUnaddressed_24 : decode (jm_cod M_Line_firstUnaddressed) 24 = .ok (.iinc 1 1, 3) := dt_Line_firstUnaddressed_c0 14
theorem d_Line_firstUnaddressed_27 : decode (jm_cod M_Line_firstUnaddressed) 27 = .ok (.goto (-25), 3) := dt_Line_firstUnaddressed_c0 15
theorem d_Line_firstUnaddressed_30 : decode (jm_cod M_Line_firstUnaddressed) 30 = .ok (.iconst (-1), 1) := dt_Line_firstUnaddressed_c0 16
theorem d_Line_firstUnaddressed_31 : decode (jm_cod M_Line_firstUnaddressed) 31 = .ok (.ireturn, 1) := dt_Line_firstUnaddressed_c0 17
def tab_Line_firstUnended_c0 : List (Nat × Instr × Nat) := [(0, .iconst 0, 1), (1, .istore_n 1, 1), (2, .iload_n 1, 1), (3, .aload_n 0, 1), (4, .getfield 18, 3), (7, .if_icmp .ge 23, 3), (10, .aload_n 0, 1), (11, .getfield 11, 3), (14, .iload_n 1, 1), (15, .aaload, 1), (16, .getfield 42, 3), (19, .ifCond .ne 5, 3), (22, .iload_n 1, 1), (23, .ireturn, 1), (24, .iinc 1 1, 3), (27, .goto (-25), 3), (30, .iconst (-1), 1), (31, .ireturn, 1)]
theorem dt_Line_firstUnended_c0 (i : Nat) : decode (jm_cod M_Line_firstUnended) (tab_Line_firstUnended_c0.getD i (0, .iconst 0, 1)).1 = .ok ((tab_Line_firstUnended_c0.getD i (0, .iconst 0, 1)).2.1, (tab_Line_firstUnended_c0.getD i (0, .iconst 0, 1)).2.2) := j_tab (by decide +kernel) i
theorem d_Line_firstUnended_0 : decode (jm_cod M_Line_firstUnended) 0 = .ok (.iconst 0, 1) := dt_Line_firstUnended_c0 0
theorem d_Line_firstUnended_1 : decode (jm_cod M_Line_firstUnended) 1 = .ok (.istore_n 1, 1) := dt_Line_firstUnended_c0 1
theorem d_Line_firstUnended_2 : decode (jm_cod M_Line_firstUnended) 2 = .ok (.iload_n 1, 1) := dt_Line_firstUnended_c0 2
theorem d_Line_firstUnended_3 : decode (jm_cod M_Line_firstUnended) 3 = .ok (.aload_n 0, 1) := dt_Line_firstUnended_c0 3
theorem d_Line_firstUnended_4 : decode (jm_cod M_Line_firstUnended) 4 = .ok (.getfield 18, 3) := dt_Line_firstUnended_c0 4
theorem d_Line_firstUnended_7 : decode (jm_cod M_Line_firstUnended) 7 = .ok (.if_icmp .ge 23, 3) := dt_Line_firstUnended_c0 5
theorem d_Line_firstUnended_10 : decode (jm_cod M_Line_firstUnended) 10 = .ok (.aload_n 0, 1) := dt_Line_firstUnended_c0 6
theorem d_Line_firstUnended_11 : decode (jm_cod M_Line_firstUnended) 11 = .ok (.getfield 11, 3) := dt_Line_firstUnended_c0 7
theorem d_Line_firstUnended_14 : decode (jm_cod M_Line_firstUnended) 14 = .ok (.iload_n 1, 1) := dt_Line_firstUnended_c0 8
theorem d_Line_firstUnended_15 : decode (jm_cod M_Line_firstUnended) 15 = .ok (.aaload, 1) := dt_Line_firstUnended_c0 9
theorem d_Line_firstUnended_16 : decode (jm_cod M_Line_firstUnended) 16 = .ok (.getfield 42, 3) := dt_Line_firstUnended_c0 10
theorem d_Line_firstUnended_19 : decode (jm_cod M_Line_firstUnended) 19 = .ok (.ifCond .ne 5, 3) := dt_Line_firstUnended_c0 11
theorem d_Line_firstUnended_22 : decode (jm_cod M_Line_firstUnended) 22 = .ok (.iload_n 1, 1) := dt_Line_firstUnended_c0 12
theorem d_Line_firstUnended_23 : decode (jm_cod M_Line_firstUnended) 23 = .ok (.ireturn, 1) := dt_Line_firstUnended_c0 13
theorem d_Line_firstUnended_24 : decode (jm_cod M_Line_firstUnended) 24 = .ok (.iinc 1 1, 3) := dt_Line_firstUnended_c0 14
theorem d_Line_firstUnended_27 : decode (jm_cod M_Line_firstUnended) 27 = .ok (.goto (-25), 3) := dt_Line_firstUnended_c0 15
theorem d_Line_firstUnended_30 : decode (jm_cod M_Line_firstUnended) 30 = .ok (.iconst (-1), 1) := dt_Line_firstUnended_c0 16
theorem d_Line_firstUnended_31 : decode (jm_cod M_Line_firstUnended) 31 = .ok (.ireturn, 1) := dt_Line_firstUnended_c0 17
