def tab_Master_init_c0 : List (Nat × Instr × Nat) := [(0, .aload_n 0, 1), (1, .invokespecial 3, 3), (4, .aload_n 0, 1), (5, .iconst 5, 1), (6, .newarray .int, 2), (8, .putfield 9, 3), (11, .aload_n 0, 1), (12, .bipush 64, 2), (14, .anewarray 15, 3), (17, .putfield 17, 3), (20, .aload_n 0, 1), (21, .bipush 64, 2), (23, .anewarray 15, 3), (26, .putfield 21, 3), (29, .aload_n 0, 1), (30, .getfield 9, 3), (33, .ldc 24, 2), (35, .invokestatic 25, 3), (38, .return_, 1)]
theorem dt_Master_init_c0 (i : Nat) : decode (jm_cod M_Master_init) (tab_Master_init_c0.getD i (0, .aload_n 0, 1)).1 = .ok ((tab_Master_init_c0.getD i (0, .aload_n 0, 1)).2.1, (tab_Master_init_c0.getD i (0, .aload_n 0, 1)).2.2) := j_tab (by decide +kernel) i
theorem d_Master_init_0 : decode (jm_cod M_Master_init) 0 = .ok (.aload_n 0, 1) := dt_Master_init_c0 0
theorem d_Master_init_1 : decode (jm_cod M_Master_init) 1 = .ok (.invokespecial 3, 3) := dt_Master_init_c0 1
theorem d_Master_init_4 : decode (jm_cod M_Master_init) 4 = .ok (.aload_n 0, 1) := dt_Master_init_c0 2
theorem d_Master_init_5 : decode (jm_cod M_Master_init) 5 = .ok (.iconst 5, 1) := dt_Master_init_c0 3
theorem d_Master_init_6 : decode (jm_cod M_Master_init) 6 = .ok (.newarray .int, 2) := dt_Master_init_c0 4
theorem d_Master_init_8 : decode (jm_cod M_Master_init) 8 = .ok (.putfield 9, 3) := dt_Master_init_c0 5
theorem d_Master_init_11 : decode (jm_cod M_Master_init) 11 = .ok (.aload_n 0, 1) := dt_Master_init_c0 6
theorem d_Master_init_12 : decode (jm_cod M_Master_init) 12 = .ok (.bipush 64, 2) := dt_Master_init_c0 7
theorem d_Master_init_14 : decode (jm_cod M_Master_init) 14 = .ok (.anewarray 15, 3) := dt_Master_init_c0 8
theorem d_Master_init_17 : decode (jm_cod M_Master_init) 17 = .ok (.putfield 17, 3) := dt_Master_init_c0 9
theorem d_Master_init_20 : decode (jm_cod M_Master_init) 20 = .ok (.aload_n 0, 1) := dt_Master_init_c0 10
theorem d_Master_init_21 : decode (jm_cod M_Master_init) 21 = .ok (.bipush 64, 2) := dt_Master_init_c0 11
theorem d_Master_init_23 : decode (jm_cod M_Master_init) 23 = .ok (.anewarray 15, 3) := dt_Master_init_c0 12
theorem d_Master_init_26 : decode (jm_cod M_Master_init) 26 = .ok (.putfield 21, 3) := dt_Master_init_c0 13
theorem d_Master_init_29 : decode (jm_cod M_Master_init) 29 = .ok (.aload_n 0, 1) := dt_Master_init_c0 14
theorem d_Master_init_30 : decode (jm_cod M_Master_init) 30 = .ok (.getfield 9, 3) := dt_Master_init_c0 15
theorem d_Master_init_33 : decode (jm_cod M_Master_init) 33 = .ok (.ldc 24, 2) := dt_Master_init_c0 16
theorem d_Master_init_35 : decode (jm_cod M_Master_init) 35 = .ok (.invokestatic 25, 3) := dt_Master_init_c0 17
theorem d_Master_init_38 : decode (jm_cod M_Master_init) 38 = .ok (.return_, 1) := dt_Master_init_c0 18
def tab_Master_resetSettings_c0 : List (Nat × Instr × Nat) := [(0, .aload_n 0, 1), (1, .getfield 9, 3), (4, .ldc 24, 2), (6, .invokestatic 25, 3), (9, .aload_n 0, 1), (10, .iconst 0, 1), (11, .putfield 31, 3), (14, .return_, 1)]
theorem dt_Master_resetSettings_c0 (i : Nat) : decode (jm_cod M_Master_resetSettings) (tab_Master_resetSettings_c0.getD i (0, .aload_n 0, 1)).1 = .ok ((tab_Master_resetSettings_c0.getD i (0, .aload_n 0, 1)).2.1, (tab_Master_resetSettings_c0.getD i (0, .aload_n 0, 1)).2.2) := j_tab (by decide +kernel) i
theorem d_Master_resetSettings_0 : decode (jm_cod M_Master_resetSettings) 0 = .ok (.aload_n 0, 1) := dt_Master_resetSettings_c0 0
theorem d_Master_resetSettings_1 : decode (jm_cod M_Master_resetSettings) 1 = .ok (.getfield 9, 3) := dt_Master_resetSettings_c0 1
theorem d_Master_resetSettings_4 : decode (jm_cod M_Master_resetSettings) 4 = .ok (.ldc 24, 2) := dt_Master_resetSettings_c0 2
theorem d_Master_resetSettings_6 : decode (jm_cod M_Master_resetSettings) 6 = .ok (.invokestatic 25, 3) := dt_Master_resetSettings_c0 3
theorem d_Master_resetSettings_9 : decode (jm_cod M_Master_resetSettings) 9 = .ok (.aload_n 0, 1) := dt_Master_resetSettings_c0 4
theorem d_Master_resetSettings_10 : decode (jm_cod M_Master_resetSettings) 10 = .ok (.iconst 0, 1) := dt_Master_resetSettings_c0 5
theorem d_Master_resetSettings_11 : decode (jm_cod M_Master_resetSettings) 11 = .ok (.putfield 31, 3) := dt_Master_resetSettings_c0 6
theorem d_Master_resetSettings_14 : decode (jm_cod M_Master_resetSettings) 14 = .ok (.return_, 1) := dt_Master_resetSettings_c0 7
def tab_Master_dropRequests_c0 : List (Nat × Instr × Nat) := [(0, .aload_n 0, 1), (1, .iconst 0, 1), (2, .putfield 35, 3), (5, .aload_n 0, 1), (6, .iconst 0, 1), (7, .putfield 39, 3), (10, .aload_n 0, 1), (11, .iconst 0, 1), (12, .putfield 42, 3), (15, .aload_n 0, 1), (16, .iconst 0, 1), (17, .putfield 45, 3), (20, .aload_n 0, 1), (21, .iconst 0, 1), (22, .putfield 48, 3), (25, .aload_n 0, 1), (26, .iconst 0, 1), (27, .putfield 51, 3), (30, .return_, 1)]
theorem dt_Master_dropRequests_c0 (i : Nat) : decode (jm_cod M_Master_dropRequests) (tab_Master_dropRequests_c0.getD i (0, .aload_n 0, 1)).1 = .ok ((tab_Master_dropRequests_c0.getD i (0, .aload_n 0, 1)).2.1, (tab_Master_dropRequests_c0.getD i (0, .aload_n 0, 1)).2.2) := j_tab (by decide +kernel) i
theorem d_Master_dropRequests_0 : decode (jm_cod M_Master_dropRequests) 0 = .ok (.aload_n 0, 1) := dt_Master_dropRequests_c0 0
theorem d_Master_dropRequests_1 : decode (jm_cod M_Master_dropRequests) 1 = .ok (.iconst 0, 1) := dt_Master_dropRequests_c0 1
theorem d_Master_dropRequests_2 : decode (jm_cod M_Master_dropRequests) 2 = .ok (.putfield 35, 3) := dt_Master_dropRequests_c0 2
theorem d_Master_dropRequests_5 : decode (jm_cod M_Master_dropRequests) 5 = .ok (.aload_n 0, 1) := dt_Master_dropRequests_c0 3
theorem d_Master_dropRequests_6 : decode (jm_cod M_Master_dropRequests) 6 = .ok (.iconst 0, 1) := dt_Master_dropRequests_c0 4
theorem d_Master_dropRequests_7 : decode (jm_cod M_Master_dropRequests) 7 = .ok (.putfield 39, 3) := dt_Master_dropRequests_c0 5
theorem d_Master_dropRequests_10 : decode (jm_cod M_Master_dropRequests) 10 = .ok (.aload_n 0, 1) := dt_Master_dropRequests_c0 6
theorem d_Master_dropRequests_11 : decode (jm_cod M_Master_dropRequests) 11 = .ok (.iconst 0, 1) := dt_Master_dropRequests_c0 7
theorem d_Master_dropRequests_12 : decode (jm_cod M_Master_dropRequests) 12 = .ok (.putfield 42, 3) := dt_Master_dropRequests_c0 8
theorem d_Master_dropRequests_15 : decode (jm_cod M_Master_dropRequests) 15 = .ok (.aload_n 0, 1) := dt_Master_dropRequests_c0 9
theorem d_Master_dropRequests_16 : decode (jm_cod M_Master_dropRequests) 16 = .ok (.iconst 0, 1) := dt_Master_dropRequests_c0 10
theorem d_Master_dropRequests_17 : decode (jm_cod M_Master_dropRequests) 17 = .ok (.putfield 45, 3) := dt_Master_dropRequests_c0 11
theorem d_Master_dropRequests_20 : decode (jm_cod M_Master_dropRequests) 20 = .ok (.aload_n 0, 1) := dt_Master_dropRequests_c0 12
theorem d_Master_dropRequests_21 : decode (jm_cod M_Master_dropRequests) 21 = .ok (.iconst 0, 1) := dt_Master_dropRequests_c0 13
theorem d_Master_dropRequests_22 : decode (jm_cod M_Master_dropRequests) 22 = .ok (.putfield 48, 3) := dt_Master_dropRequests_c0 14
theorem d_Master_dropRequests_25 : decode (jm_cod M_Master_dropRequests) 25 = .ok (.aload_n 0, 1) := dt_Master_dropRequests_c0 15
theorem d_Master_dropRequests_26 : decode (jm_cod M_Master_dropRequests) 26 = .ok (.iconst 0, 1) := dt_Master_dropRequests_c0 16
theorem d_Master_dropRequests_27 : decode (jm_cod M_Master_dropRequests) 27 = .ok (.putfield 51, 3) := dt_Master_dropRequests_c0 17
theorem d_Master_dropRequests_30 : decode (jm_cod M_Master_dropRequests) 30 = .ok (.return_, 1) := dt_Master_dropRequests_c0 18
def tab_Master_hasRoom_c0 : List (Nat × Instr × Nat) := [(0, .iload_n 1, 1), (1, .ifCond .eq 10, 3), (4, .aload_n 0, 1), (5, .getfield 35, 3), (8, .goto 7, 3), (11, .aload_n 0, 1), (12, .getfield 39, 3), (15, .istore_n 2, 1), (16, .iload_n 1, 1), (17, .ifCond .eq 10, 3), (20, .aload_n 0, 1), (21, .getfield 42, 3), (24, .goto 7, 3), (27, .aload_n 0, 1), (28, .getfield 45, 3), (31, .istore_n 3, 1), (32, .iload_n 2, 1), (33, .bipush 64, 2), (35, .if_icmp .ge 15, 3), (38, .iload_n 2, 1), (39, .iload_n 3, 1), (40, .isub, 1), (41, .bipush 8, 2), (43, .if_icmp .ge 7, 3)]
theorem dt_Master_hasRoom_c0 (i : Nat) : decode (jm_cod M_Master_hasRoom) (tab_Master_hasRoom_c0.getD i (0, .iload_n 1, 1)).1 = .ok ((tab_Master_hasRoom_c0.getD i (0, .iload_n 1, 1)).2.1, (tab_Master_hasRoom_c0.getD i (0, .iload_n 1, 1)).2.2) := j_tab (by decide +kernel) i
theorem d_Master_hasRoom_0 : decode (jm_cod M_Master_hasRoom) 0 = .ok (.iload_n 1, 1) := dt_Master_hasRoom_c0 0
theorem d_Master_hasRoom_1 : decode (jm_cod M_Master_hasRoom) 1 = .ok (.ifCond .eq 10, 3) := dt_Master_hasRoom_c0 1
theorem d_Master_hasRoom_4 : decode (jm_cod M_Master_hasRoom) 4 = .ok (.aload_n 0, 1) := dt_Master_hasRoom_c0 2
theorem d_Master_hasRoom_5 : decode (jm_cod M_Master_hasRoom) 5 = .ok (.getfield 35, 3) := dt_Master_hasRoom_c0 3
theorem d_Master_hasRoom_8 : decode (jm_cod M_Master_hasRoom) 8 = .ok (.goto 7, 3) := dt_Master_hasRoom_c0 4
theorem d_Master_hasRoom_11 : decode (jm_cod M_Master_hasRoom) 11 = .ok (.aload_n 0, 1) := dt_Master_hasRoom_c0 5
theorem d_Master_hasRoom_12 : decode (jm_cod M_Master_hasRoom) 12 = .ok (.getfield 39, 3) := dt_Master_hasRoom_c0 6
theorem d_Master_hasRoom_15 : decode (jm_cod M_Master_hasRoom) 15 = .ok (.istore_n 2, 1) := dt_Master_hasRoom_c0 7
theorem d_Master_hasRoom_16 : decode (jm_cod M_Master_hasRoom) 16 = .ok (.iload_n 1, 1) := dt_Master_hasRoom_c0 8
theorem d_Master_hasRoom_17 : decode (jm_cod M_Master_hasRoom) 17 = .ok (.ifCond .eq 10, 3) := dt_Master_hasRoom_c0 9
theorem d_Master_hasRoom_20 : decode (jm_cod M_Master_hasRoom) 20 = .ok (.aload_n 0, 1) := dt_Master_hasRoom_c0 10
theorem d_Master_hasRoom_21 : decode (jm_cod M_Master_hasRoom) 21 = .ok (.getfield 42, 3) := dt_Master_hasRoom_c0 11
theorem d_Master_hasRoom_24 : decode (jm_cod M_Master_hasRoom) 24 = .ok (.goto 7, 3) := dt_Master_hasRoom_c0 12
theorem d_Master_hasRoom_27 : decode (jm_cod M_Master_hasRoom) 27 = .ok (.aload_n 0, 1) := dt_Master_hasRoom_c0 13
theorem d_Master_hasRoom_28 : decode (jm_cod M_Master_hasRoom) 28 = .ok (.getfield 45, 3) := dt_Master_hasRoom_c0 14
theorem d_Master_hasRoom_31 : decode (jm_cod M_Master_hasRoom) 31 = .ok (.istore_n 3, 1) := dt_Master_hasRoom_c0 15
theorem d_Master_hasRoom_32 : decode (jm_cod M_Master_hasRoom) 32 = .ok (.iload_n 2, 1) := dt_Master_hasRoom_c0 16
theorem d_Master_hasRoom_33 : decode (jm_cod M_Master_hasRoom) 33 = .ok (.bipush 64, 2) := dt_Master_hasRoom_c0 17
theorem d_Master_hasRoom_35 : decode (jm_cod M_Master_hasRoom) 35 = .ok (.if_icmp .ge 15, 3) := dt_Master_hasRoom_c0 18
theorem d_Master_hasRoom_38 : decode (jm_cod M_Master_hasRoom) 38 = .ok (.iload_n 2, 1) := dt_Master_hasRoom_c0 19
theorem d_Master_hasRoom_39 : decode (jm_cod M_Master_hasRoom) 39 = .ok (.iload_n 3, 1) := dt_Master_hasRoom_c0 20
theorem d_Master_hasRoom_40 : decode (jm_cod M_Master_hasRoom) 40 = .ok (.isub, 1) := dt_Master_hasRoom_c0 21
theorem d_Master_hasRoom_41 : decode (jm_cod M_Master_hasRoom) 41 = .ok (.bipush 8, 2) := dt_Master_hasRoom_c0 22
theorem d_Master_hasRoom_43 : decode (jm_cod M_Master_hasRoom) 43 = .ok (.if_icmp .ge 7, 3) := dt_Master_hasRoom_c0 23
def tab_Master_hasRoom_c1 : List (Nat × Instr × Nat) := [(46, .iconst 1, 1), (47, .goto 4, 3), (50, .iconst 0, 1), (51, .ireturn, 1)]
theorem dt_Master_hasRoom_c1 (i : Nat) : decode (jm_cod M_Master_hasRoom) (tab_Master_hasRoom_c1.getD i (46, .iconst 1, 1)).1 = .ok ((tab_Master_hasRoom_c1.getD i (46, .iconst 1, 1)).2.1, (tab_Master_hasRoom_c1.getD i (46, .iconst 1, 1)).2.2) := j_tab (by decide +kernel) i
theorem d_Master_hasRoom_46 : decode (jm_cod M_Master_hasRoom) 46 = .ok (.iconst 1, 1) := dt_Master_hasRoom_c1 0
theorem d_Master_hasRoom_47 : decode (jm_cod M_Master_hasRoom) 47 = .ok (.goto 4, 3) := dt_Master_hasRoom_c1 1
theorem d_Master_hasRoom_50 : decode (jm_cod M_Master_hasRoom) 50 = .ok (.iconst 0, 1) := dt_Master_hasRoom_c1 2
theorem d_Master_hasRoom_51 : decode (jm_cod M_Master_hasRoom) 51 = .ok (.ireturn, 1) := dt_Master_hasRoom_c1 3
def tab_Master_enqueue_c0 : List (Nat × Instr × Nat) := [(0, .aload_n 0, 1), (1, .aload_n 1, 1), (2, .getfield 54, 3), (5, .invokevirtual 57, 3), (8, .ifCond .ne 4, 3), (11, .return_, 1), (12, .aload_n 1, 1), (13, .getfield 54, 3), (16, .ifCond .eq 26, 3), (19, .aload_n 0, 1), (20, .getfield 17, 3), (23, .aload_n 0, 1), (24, .getfield 35, 3), (27, .aload_n 1, 1), (28, .aastore, 1), (29, .aload_n 0, 1), (30, .dup, 1), (31, .getfield 35, 3), (34, .iconst 1, 1), (35, .iadd, 1), (36, .putfield 35, 3), (39, .goto 23, 3), (42, .aload_n 0, 1), (43, .getfield 21, 3)]
theorem dt_Master_enqueue_c0 (i : Nat) : decode (jm_cod M_Master_enqueue) (tab_Master_enqueue_c0.getD i (0, .aload_n 0, 1)).1 = .ok ((tab_Master_enqueue_c0.getD i (0, .aload_n 0, 1)).2.1, (tab_Master_enqueue_c0.getD i (0, .aload_n 0, 1)).2.2) := j_tab (by decide +kernel) i
theorem d_Master_enqueue_0 : decode (jm_cod M_Master_enqueue) 0 = .ok (.aload_n 0, 1) := dt_Master_enqueue_c0 0
theorem d_Master_enqueue_1 : decode (jm_cod M_Master_enqueue) 1 = .ok (.aload_n 1, 1) := dt_Master_enqueue_c0 1
theorem d_Master_enqueue_2 : decode (jm_cod M_Master_enqueue) 2 = .ok (.getfield 54, 3) := dt_Master_enqueue_c0 2
theorem d_Master_enqueue_5 : decode (jm_cod M_Master_enqueue) 5 = .ok (.invokevirtual 57, 3) := dt_Master_enqueue_c0 3
theorem d_Master_enqueue_8 : decode (jm_cod M_Master_enqueue) 8 = .ok (.ifCond .ne 4, 3) := dt_Master_enqueue_c0 4
theorem d_Master_enqueue_11 : decode (jm_cod M_Master_enqueue) 11 = .ok (.return_, 1) := dt_Master_enqueue_c0 5
theorem d_Master_enqueue_12 : decode (jm_cod M_Master_enqueue) 12 = .ok (.aload_n 1, 1) := dt_Master_enqueue_c0 6
theorem d_Master_enqueue_13 : decode (jm_cod M_Master_enqueue) 13 = .ok (.getfield 54, 3) := dt_Master_enqueue_c0 7
theorem d_Master_enqueue_16 : decode (jm_cod M_Master_enqueue) 16 = .ok (.ifCond .eq 26, 3) := dt_Master_enqueue_c0 8
theorem d_Master_enqueue_19 : decode (jm_cod M_Master_enqueue) 19 = .ok (.aload_n 0, 1) := dt_Master_enqueue_c0 9
theorem d_Master_enqueue_20 : decode (jm_cod M_Master_enqueue) 20 = .ok (.getfield 17, 3) := dt_Master_enqueue_c0 10
theorem d_Master_enqueue_23 : decode (jm_cod M_Master_enqueue) 23 = .ok (.aload_n 0, 1) := dt_Master_enqueue_c0 11
theorem d_Master_enqueue_24 : decode (jm_cod M_Master_enqueue) 24 = .ok (.getfield 35, 3) := dt_Master_enqueue_c0 12
theorem d_Master_enqueue_27 : decode (jm_cod M_Master_enqueue) 27 = .ok (.aload_n 1, 1) := dt_Master_enqueue_c0 13
theorem d_Master_enqueue_28 : decode (jm_cod M_Master_enqueue) 28 = .ok (.aastore, 1) := dt_Master_enqueue_c0 14
theorem d_Master_enqueue_29 : decode (jm_cod M_Master_enqueue) 29 = .ok (.aload_n 0, 1) := dt_Master_enqueue_c0 15
theorem d_Master_enqueue_30 : decode (jm_cod M_Master_enqueue) 30 = .ok (.dup, 1) := dt_Master_enqueue_c0 16
theorem d_Master_enqueue_31 : decode (jm_cod M_Master_enqueue) 31 = .ok (.getfield 35, 3) := dt_Master_enqueue_c0 17
theorem d_Master_enqueue_34 : decode (jm_cod M_Master_enqueue) 34 = .ok (.iconst 1, 1) := dt_Master_enqueue_c0 18
theorem d_Master_enqueue_35 : decode (jm_cod M_Master_enqueue) 35 = .ok (.iadd, 1) := dt_Master_enqueue_c0 19
theorem d_Master_enqueue_36 : decode (jm_cod M_Master_enqueue) 36 = .ok (.putfield 35, 3) := dt_Master_enqueue_c0 20
theorem d_Master_enqueue_39 : decode (jm_cod M_Master_enqueue) 39 = .ok (.goto 23, 3) := dt_Master_enqueue_c0 21
theorem d_Master_enqueue_42 : decode (jm_cod M_Master_enqueue) 42 = .ok (.aload_n 0, 1) := dt_Master_enqueue_c0 22
theorem d_Master_enqueue_43 : decode (jm_cod M_Master_enqueue) 43 = .ok (.getfield 21, 3) := dt_Master_enqueue_c0 23
def tab_Master_enqueue_c1 : List (Nat × Instr × Nat) := [(46, .aload_n 0, 1), (47, .getfield 39, 3), (50, .aload_n 1, 1), (51, .aastore, 1), (52, .aload_n 0, 1), (53, .dup, 1), (54, .getfield 39, 3), (57, .iconst 1, 1), (58, .iadd, 1), (59, .putfield 39, 3), (62, .aload_n 0, 1), (63, .dup, 1), (64, .getfield 51, 3), (67, .iconst 1, 1), (68, .iadd, 1), (69, .putfield 51, 3), (72, .return_, 1)]
theorem dt_Master_enqueue_c1 (i : Nat) : decode (jm_cod M_Master_enqueue) (tab_Master_enqueue_c1.getD i (46, .aload_n 0, 1)).1 = .ok ((tab_Master_enqueue_c1.getD i (46, .aload_n 0, 1)).2.1, (tab_Master_enqueue_c1.getD i (46, .aload_n 0, 1)).2.2) := j_tab (by decide +kernel) i
theorem d_Master_enqueue_46 : decode (jm_cod M_Master_enqueue) 46 = .ok (.aload_n 0, 1) := dt_Master_enqueue_c1 0
theorem d_Master_enqueue_47 : decode (jm_cod M_Master_enqueue) 47 = .ok (.getfield 39, 3) := dt_Master_enqueue_c1 1
theorem d_Master_enqueue_50 : decode (jm_cod M_Master_enqueue) 50 = .ok (.aload_n 1, 1) := dt_Master_enqueue_c1 2
theorem d_Master_enqueue_51 : decode (jm_cod M_Master_enqueue) 51 = .ok (.aastore, 1) := dt_Master_enqueue_c1 3
theorem d_Master_enqueue_52 : decode (jm_cod M_Master_enqueue) 52 = .ok (.aload_n 0, 1) := dt_Master_enqueue_c1 4
theorem d_Master_enqueue_53 : decode (jm_cod M_Master_enqueue) 53 = .ok (.dup, 1) := dt_Master_enqueue_c1 5
theorem d_Master_enqueue_54 : decode (jm_cod M_Master_enqueue) 54 = .ok (.getfield 39, 3) := dt_Master_enqueue_c1 6
theorem d_Master_enqueue_57 : decode (jm_cod M_Master_enqueue) 57 = .ok (.iconst 1, 1) := dt_Master_enqueue_c1 7
theorem d_Master_enqueue_58 : decode (jm_cod M_Master_enqueue) 58 = .ok (.iadd, 1) := dt_Master_enqueue_c1 8
theorem d_Master_enqueue_59 : decode (jm_cod M_Master_enqueue) 59 = .ok (.putfield 39, 3) := dt_Master_enqueue_c1 9
theorem d_Master_enqueue_62 : decode (jm_cod M_Master_enqueue) 62 = .ok (.aload_n 0, 1) := dt_Master_enqueue_c1 10
theorem d_Master_enqueue_63 : decode (jm_cod M_Master_enqueue) 63 = .ok (.dup, 1) := dt_Master_enqueue_c1 11
theorem d_Master_enqueue_64 : decode (jm_cod M_Master_enqueue) 64 = .ok (.getfield 51, 3) := dt_Master_enqueue_c1 12
theorem d_Master_enqueue_67 : decode (jm_cod M_Master_enqueue) 67 = .ok (.iconst 1, 1) := dt_Master_enqueue_c1 13
theorem d_Master_enqueue_68 : decode (jm_cod M_Master_enqueue) 68 = .ok (.iadd, 1) := dt_Master_enqueue_c1 14
theorem d_Master_enqueue_69 : decode (jm_cod M_Master_enqueue) 69 = .ok (.putfield 51, 3) := dt_Master_enqueue_c1 15
theorem d_Master_enqueue_72 : decode (jm_cod M_Master_enqueue) 72 = .ok (.return_, 1) := dt_Master_enqueue_c1 16
def tab_Master_tell_c0 : List (Nat × Instr × Nat) := [(0, .aload_n 0, 1), (1, .aload_n 1, 1), (2, .iconst 0, 1), (3, .aload_n 0, 1), (4, .getfield 17, 3), (7, .aload_n 0, 1), (8, .getfield 42, 3), (11, .aload_n 0, 1), (12, .getfield 35, 3), (15, .invokestatic 61, 3), (18, .iload_n 2, 1), (19, .invokevirtual 65, 3), (22, .aload_n 0, 1), (23, .aload_n 1, 1), (24, .aload_n 0, 1), (25, .getfield 17, 3), (28, .aload_n 0, 1), (29, .getfield 48, 3), (32, .aload_n 0, 1), (33, .getfield 35, 3), (36, .invokestatic 61, 3), (39, .iload_n 2, 1), (40, .invokevirtual 69, 3), (43, .aload_n 0, 1)]
theorem dt_Master_tell_c0 (i : Nat) : decode (jm_cod M_Master_tell) (tab_Master_tell_c0.getD i (0, .aload_n 0, 1)).1 = .ok ((tab_Master_tell_c0.getD i (0, .aload_n 0, 1)).2.1, (tab_Master_tell_c0.getD i (0, .aload_n 0, 1)).2.2) := j_tab (by decide +kernel) i
theorem d_Master_tell_0 : decode (jm_cod M_Master_tell) 0 = .ok (.aload_n 0, 1) := dt_Master_tell_c0 0
theorem d_Master_tell_1 : decode (jm_cod M_Master_tell) 1 = .ok (.aload_n 1, 1) := dt_Master_tell_c0 1
theorem d_Master_tell_2 : decode (jm_cod M_Master_tell) 2 = .ok (.iconst 0, 1) := dt_Master_tell_c0 2
theorem d_Master_tell_3 : decode (jm_cod M_Master_tell) 3 = .ok (.aload_n 0, 1) := dt_Master_tell_c0 3
theorem d_Master_tell_4 : decode (jm_cod M_Master_tell) 4 = .ok (.getfield 17, 3) := dt_Master_tell_c0 4
theorem d_Master_tell_7 : decode (jm_cod M_Master_tell) 7 = .ok (.aload_n 0, 1) := dt_Master_tell_c0 5
theorem d_Master_tell_8 : decode (jm_cod M_Master_tell) 8 = .ok (.getfield 42, 3) := dt_Master_tell_c0 6
theorem d_Master_tell_11 : decode (jm_cod M_Master_tell) 11 = .ok (.aload_n 0, 1) := dt_Master_tell_c0 7
theorem d_Master_tell_12 : decode (jm_cod M_Master_tell) 12 = .ok (.getfield 35, 3) := dt_Master_tell_c0 8
theorem d_Master_tell_15 : decode (jm_cod M_Master_tell) 15 = .ok (.invokestatic 61, 3) := dt_Master_tell_c0 9
theorem d_Master_tell_18 : decode (jm_cod M_Master_tell) 18 = .ok (.iload_n 2, 1) := dt_Master_tell_c0 10
theorem d_Master_tell_19 : decode (jm_cod M_Master_tell) 19 = .ok (.invokevirtual 65, 3) := dt_Master_tell_c0 11
theorem d_Master_tell_22 : decode (jm_cod M_Master_tell) 22 = .ok (.aload_n 0, 1) := dt_Master_tell_c0 12
theorem d_Master_tell_23 : decode (jm_cod M_Master_tell) 23 = .ok (.aload_n 1, 1) := dt_Master_tell_c0 13
theorem d_Master_tell_24 : decode (jm_cod M_Master_tell) 24 = .ok (.aload_n 0, 1) := dt_Master_tell_c0 14
theorem d_Master_tell_25 : decode (jm_cod M_Master_tell) 25 = .ok (.getfield 17, 3) := dt_Master_tell_c0 15
theorem d_Master_tell_28 : decode (jm_cod M_Master_tell) 28 = .ok (.aload_n 0, 1) := dt_Master_tell_c0 16
theorem d_Master_tell_29 : decode (jm_cod M_Master_tell) 29 = .ok (.getfield 48, 3) := dt_Master_tell_c0 17
theorem d_Master_tell_32 : decode (jm_cod M_Master_tell) 32 = .ok (.aload_n 0, 1) := dt_Master_tell_c0 18
theorem d_Master_tell_33 : decode (jm_cod M_Master_tell) 33 = .ok (.getfield 35, 3) := dt_Master_tell_c0 19
theorem d_Master_tell_36 : decode (jm_cod M_Master_tell) 36 = .ok (.invokestatic 61, 3) := dt_Master_tell_c0 20
theorem d_Master_tell_39 : decode (jm_cod M_Master_tell) 39 = .ok (.iload_n 2, 1) := dt_Master_tell_c0 21
theorem d_Master_tell_40 : decode (jm_cod M_Master_tell) 40 = .ok (.invokevirtual 69, 3) := dt_Master_tell_c0 22
theorem d_Master_tell_43 : decode (jm_cod M_Master_tell) 43 = .ok (.aload_n 0, 1) := dt_Master_tell_c0 23
def tab_Master_tell_c1 : List (Nat × Instr × Nat) := [(44, .aload_n 1, 1), (45, .iconst 3, 1), (46, .aload_n 0, 1), (47, .getfield 21, 3), (50, .aload_n 0, 1), (51, .getfield 45, 3), (54, .aload_n 0, 1), (55, .getfield 39, 3), (58, .invokestatic 61, 3), (61, .iload_n 2, 1), (62, .invokevirtual 65, 3), (65, .aload_n 1, 1), (66, .getfield 73, 3), (69, .iconst 2, 1), (70, .aload_n 0, 1), (71, .getfield 9, 3), (74, .iconst 2, 1), (75, .iaload, 1), (76, .iload_n 2, 1), (77, .invokestatic 79, 3), (80, .bastore, 1), (81, .aload_n 1, 1), (82, .getfield 73, 3), (85, .iconst 4, 1)]
theorem dt_Master_tell_c1 (i : Nat) : decode (jm_cod M_Master_tell) (tab_Master_tell_c1.getD i (44, .aload_n 1, 1)).1 = .ok ((tab_Master_tell_c1.getD i (44, .aload_n 1, 1)).2.1, (tab_Master_tell_c1.getD i (44, .aload_n 1, 1)).2.2) := j_tab (by decide +kernel) i
theorem d_Master_tell_44 : decode (jm_cod M_Master_tell) 44 = .ok (.aload_n 1, 1) := dt_Master_tell_c1 0
theorem d_Master_tell_45 : decode (jm_cod M_Master_tell) 45 = .ok (.iconst 3, 1) := dt_Master_tell_c1 1
theorem d_Master_tell_46 : decode (jm_cod M_Master_tell) 46 = .ok (.aload_n 0, 1) := dt_Master_tell_c1 2
theorem d_Master_tell_47 : decode (jm_cod M_Master_tell) 47 = .ok (.getfield 21, 3) := dt_Master_tell_c1 3
theorem d_Master_tell_50 : decode (jm_cod M_Master_tell) 50 = .ok (.aload_n 0, 1) := dt_Master_tell_c1 4
theorem d_Master_tell_51 : decode (jm_cod M_Master_tell) 51 = .ok (.getfield 45, 3) := dt_Master_tell_c1 5
theorem d_Master_tell_54 : decode (jm_cod M_Master_tell) 54 = .ok (.aload_n 0, 1) := dt_Master_tell_c1 6
theorem d_Master_tell_55 : decode (jm_cod M_Master_tell) 55 = .ok (.getfield 39, 3) := dt_Master_tell_c1 7
theorem d_Master_tell_58 : decode (jm_cod M_Master_tell) 58 = .ok (.invokestatic 61, 3) := dt_Master_tell_c1 8
theorem d_Master_tell_61 : decode (jm_cod M_Master_tell) 61 = .ok (.iload_n 2, 1) := dt_Master_tell_c1 9
theorem d_Master_tell_62 : decode (jm_cod M_Master_tell) 62 = .ok (.invokevirtual 65, 3) := dt_Master_tell_c1 10
theorem d_Master_tell_65 : decode (jm_cod M_Master_tell) 65 = .ok (.aload_n 1, 1) := dt_Master_tell_c1 11
theorem d_Master_tell_66 : decode (jm_cod M_Master_tell) 66 = .ok (.getfield 73, 3) := dt_Master_tell_c1 12
theorem d_Master_tell_69 : decode (jm_cod M_Master_tell) 69 = .ok (.iconst 2, 1) := dt_Master_tell_c1 13
theorem d_Master_tell_70 : decode (jm_cod M_Master_tell) 70 = .ok (.aload_n 0, 1) := dt_Master_tell_c1 14
theorem d_Master_tell_71 : decode (jm_cod M_Master_tell) 71 = .ok (.getfield 9, 3) := dt_Master_tell_c1 15
theorem d_Master_tell_74 : decode (jm_cod M_Master_tell) 74 = .ok (.iconst 2, 1) := dt_Master_tell_c1 16
theorem d_Master_tell_75 : decode (jm_cod M_Master_tell) 75 = .ok (.iaload, 1) := dt_Master_tell_c1 17
theorem d_Master_tell_76 : decode (jm_cod M_Master_tell) 76 = .ok (.iload_n 2, 1) := dt_Master_tell_c1 18
theorem d_Master_tell_77 : decode (jm_cod M_Master_tell) 77 = .ok (.invokestatic 79, 3) := dt_Master_tell_c1 19
theorem d_Master_tell_80 : decode (jm_cod M_Master_tell) 80 = .ok (.bastore, 1) := dt_Master_tell_c1 20
theorem d_Master_tell_81 : decode (jm_cod M_Master_tell) 81 = .ok (.aload_n 1, 1) := dt_Master_tell_c1 21
theorem d_Master_tell_82 : decode (jm_cod M_Master_tell) 82 = .ok (.getfield 73, 3) := dt_Master_tell_c1 22
theorem d_Master_tell_85 : decode (jm_cod M_Master_tell) 85 = .ok (.iconst 4, 1) := dt_Master_tell_c1 23
def tab_Master_tell_c2 : List (Nat × Instr × Nat) := [(86, .aload_n 0, 1), (87, .getfield 9, 3), (90, .iconst 4, 1), (91, .iaload, 1), (92, .iload_n 2, 1), (93, .invokestatic 79, 3), (96, .bastore, 1), (97, .return_, 1)]
theorem dt_Master_tell_c2 (i : Nat) : decode (jm_cod M_Master_tell) (tab_Master_tell_c2.getD i (86, .aload_n 0, 1)).1 = .ok ((tab_Master_tell_c2.getD i (86, .aload_n 0, 1)).2.1, (tab_Master_tell_c2.getD i (86, .aload_n 0, 1)).2.2) := j_tab (by decide +kernel) i
theorem d_Master_tell_86 : decode (jm_cod M_Master_tell) 86 = .ok (.aload_n 0, 1) := dt_Master_tell_c2 0
theorem d_Master_tell_87 : decode (jm_cod M_Master_tell) 87 = .ok (.getfield 9, 3) := dt_Master_tell_c2 1
theorem d_Master_tell_90 : decode (jm_cod M_Master_tell) 90 = .ok (.iconst 4, 1) := dt_Master_tell_c2 2
theorem d_Master_tell_91 : decode (jm_cod M_Master_tell) 91 = .ok (.iaload, 1) := dt_Master_tell_c2 3
theorem d_Master_tell_92 : decode (jm_cod M_Master_tell) 92 = .ok (.iload_n 2, 1) := dt_Master_tell_c2 4
theorem d_Master_tell_93 : decode (jm_cod M_Master_tell) 93 = .ok (.invokestatic 79, 3) := dt_Master_tell_c2 5
theorem d_Master_tell_96 : decode (jm_cod M_Master_tell) 96 = .ok (.bastore, 1) := dt_Master_tell_c2 6
theorem d_Master_tell_97 : decode (jm_cod M_Master_tell) 97 = .ok (.return_, 1) := dt_Master_tell_c2 7
def tab_Master_at_c0 : List (Nat × Instr × Nat) := [(0, .iload_n 1, 1), (1, .ifCond .lt 14, 3), (4, .iload_n 1, 1), (5, .iload_n 2, 1), (6, .if_icmp .ge 9, 3), (9, .iload_n 1, 1), (10, .aload_n 0, 1), (11, .arraylength, 1), (12, .if_icmp .lt 7, 3), (15, .aconst_null, 1), (16, .goto 6, 3), (19, .aload_n 0, 1), (20, .iload_n 1, 1), (21, .aaload, 1), (22, .areturn, 1)]
theorem dt_Master_at_c0 (i : Nat) : decode (jm_cod M_Master_at) (tab_Master_at_c0.getD i (0, .iload_n 1, 1)).1 = .ok ((tab_Master_at_c0.getD i (0, .iload_n 1, 1)).2.1, (tab_Master_at_c0.getD i (0, .iload_n 1, 1)).2.2) := j_tab (by decide +kernel) i
theorem d_Master_at_0 : decode (jm_cod M_Master_at) 0 = .ok (.iload_n 1, 1) := dt_Master_at_c0 0
theorem d_Master_at_1 : decode (jm_cod M_Master_at) 1 = .ok (.ifCond .lt 14, 3) := dt_Master_at_c0 1
theorem d_Master_at_4 : decode (jm_cod M_Master_at) 4 = .ok (.iload_n 1, 1) := dt_Master_at_c0 2
theorem d_Master_at_5 : decode (jm_cod M_Master_at) 5 = .ok (.iload_n 2, 1) := dt_Master_at_c0 3
theorem d_Master_at_6 : decode (jm_cod M_Master_at) 6 = .ok (.if_icmp .ge 9, 3) := dt_Master_at_c0 4
theorem d_Master_at_9 : decode (jm_cod M_Master_at) 9 = .ok (.iload_n 1, 1) := dt_Master_at_c0 5
theorem d_Master_at_10 : decode (jm_cod M_Master_at) 10 = .ok (.aload_n 0, 1) := dt_Master_at_c0 6
theorem d_Master_at_11 : decode (jm_cod M_Master_at) 11 = .ok (.arraylength, 1) := dt_Master_at_c0 7
theorem d_Master_at_12 : decode (jm_cod M_Master_at) 12 = .ok (.if_icmp .lt 7, 3) := dt_Master_at_c0 8
theorem d_Master_at_15 : decode (jm_cod M_Master_at) 15 = .ok (.aconst_null, 1) := dt_Master_at_c0 9
theorem d_Master_at_16 : decode (jm_cod M_Master_at) 16 = .ok (.goto 6, 3) := dt_Master_at_c0 10
theorem d_Master_at_19 : decode (jm_cod M_Master_at) 19 = .ok (.aload_n 0, 1) := dt_Master_at_c0 11
theorem d_Master_at_20 : decode (jm_cod M_Master_at) 20 = .ok (.iload_n 1, 1) := dt_Master_at_c0 12
theorem d_Master_at_21 : decode (jm_cod M_Master_at) 21 = .ok (.aaload, 1) := dt_Master_at_c0 13
theorem d_Master_at_22 : decode (jm_cod M_Master_at) 22 = .ok (.areturn, 1) := dt_Master_at_c0 14
def tab_Master_tellAddress_c0 : List (Nat × Instr × Nat) := [(0, .aload_n 1, 1), (1, .getfield 83, 3), (4, .iload_n 2, 1), (5, .baload, 1), (6, .ifCond .ne 34, 3), (9, .aload_n 3, 1), (10, .ifnull 30, 3), (13, .aload_n 0, 1), (14, .getfield 9, 3), (17, .iload_n 2, 1), (18, .iaload, 1), (19, .iload 4, 2), (21, .invokestatic 79, 3), (24, .ifCond .eq 16, 3), (27, .aload_n 1, 1), (28, .iload_n 2, 1), (29, .aload_n 3, 1), (30, .getfield 86, 3), (33, .getfield 90, 3), (36, .iconst 0, 1), (37, .invokevirtual 96, 3), (40, .return_, 1)]
theorem dt_Master_tellAddress_c0 (i : Nat) : decode (jm_cod M_Master_tellAddress) (tab_Master_tellAddress_c0.getD i (0, .aload_n 1, 1)).1 = .ok ((tab_Master_tellAddress_c0.getD i (0, .aload_n 1, 1)).2.1, (tab_Master_tellAddress_c0.getD i (0, .aload_n 1, 1)).2.2) := j_tab (by decide +kernel) i
theorem d_Master_tellAddress_0 : decode (jm_cod M_Master_tellAddress) 0 = .ok (.aload_n 1, 1) := dt_Master_tellAddress_c0 0
theorem d_Master_tellAddress_1 : decode (jm_cod M_Master_tellAddress) 1 = .ok (.getfield 83, 3) := dt_Master_tellAddress_c0 1
theorem d_Master_tellAddress_4 : decode (jm_cod M_Master_tellAddress) 4 = .ok (.iload_n 2, 1) := dt_Master_tellAddress_c0 2
theorem d_Master_tellAddress_5 : decode (jm_cod M_Master_tellAddress) 5 = .ok (.baload, 1) := dt_Master_tellAddress_c0 3
theorem d_Master_tellAddress_6 : decode (jm_cod M_Master_tellAddress) 6 = .ok (.ifCond .ne 34, 3) := dt_Master_tellAddress_c0 4
theorem d_Master_tellAddress_9 : decode (jm_cod M_Master_tellAddress) 9 = .ok (.aload_n 3, 1) := dt_Master_tellAddress_c0 5
theorem d_Master_tellAddress_10 : decode (jm_cod M_Master_tellAddress) 10 = .ok (.ifnull 30, 3) := dt_Master_tellAddress_c0 6
theorem d_Master_tellAddress_13 : decode (jm_cod M_Master_tellAddress) 13 = .ok (.aload_n 0, 1) := dt_Master_tellAddress_c0 7
theorem d_Master_tellAddress_14 : decode (jm_cod M_Master_tellAddress) 14 = .ok (.getfield 9, 3) := dt_Master_tellAddress_c0 8
theorem d_Master_tellAddress_17 : decode (jm_cod M_Master_tellAddress) 17 = .ok (.iload_n 2, 1) := dt_Master_tellAddress_c0 9
theorem d_Master_tellAddress_18 : decode (jm_cod M_Master_tellAddress) 18 = .ok (.iaload, 1) := dt_Master_tellAddress_c0 10
theorem d_Master_tellAddress_19 : decode (jm_cod M_Master_tellAddress) 19 = .ok (.iload 4, 2) := dt_Master_tellAddress_c0 11
theorem d_Master_tellAddress_21 : decode (jm_cod M_Master_tellAddress) 21 = .ok (.invokestatic 79, 3) := dt_Master_tellAddress_c0 12
theorem d_Master_tellAddress_24 : decode (jm_cod M_Master_tellAddress) 24 = .ok (.ifCond .eq 16, 3) := dt_Master_tellAddress_c0 13
theorem d_Master_tellAddress_27 : decode (jm_cod M_Master_tellAddress) 27 = .ok (.aload_n 1, 1) := dt_Master_tellAddress_c0 14
theorem d_Master_tellAddress_28 : decode (jm_cod M_Master_tellAddress) 28 = .ok (.iload_n 2, 1) := dt_Master_tellAddress_c0 15
theorem d_Master_tellAddress_29 : decode (jm_cod M_Master_tellAddress) 29 = .ok (.aload_n 3, 1) := dt_Master_tellAddress_c0 16
theorem d_Master_tellAddress_30 : decode (jm_cod M_Master_tellAddress) 30 = .ok (.getfield 86, 3) := dt_Master_tellAddress_c0 17
theorem d_Master_tellAddress_33 : decode (jm_cod M_Master_tellAddress) 33 = .ok (.getfield 90, 3) := dt_Master_tellAddress_c0 18
theorem d_Master_tellAddress_36 : decode (jm_cod M_Master_tellAddress) 36 = .ok (.iconst 0, 1) := dt_Master_tellAddress_c0 19
theorem d_Master_tellAddress_37 : decode (jm_cod M_Master_tellAddress) 37 = .ok (.invokevirtual 96, 3) := dt_Master_tellAddress_c0 20
theorem d_Master_tellAddress_40 : decode (jm_cod M_Master_tellAddress) 40 = .ok (.return_, 1) := dt_Master_tellAddress_c0 21
def tab_Master_tellData_c0 : List (Nat × Instr × Nat) := [(0, .aload_n 1, 1), (1, .getfield 83, 3), (4, .iconst 1, 1), (5, .baload, 1), (6, .ifCond .ne 20, 3), (9, .aload_n 2, 1), (10, .ifnull 16, 3), (13, .aload_n 0, 1), (14, .getfield 9, 3), (17, .iconst 1, 1), (18, .iaload, 1), (19, .iload_n 3, 1), (20, .invokestatic 79, 3), (23, .ifCond .ne 4, 3), (26, .return_, 1), (27, .aload_n 2, 1), (28, .getfield 86, 3), (31, .astore 4, 2), (33, .aload_n 0, 1), (34, .getfield 31, 3), (37, .ifCond .ne 11, 3), (40, .aload_n 2, 1), (41, .getfield 100, 3), (44, .iconst (-1), 1)]
theorem dt_Master_tellData_c0 (i : Nat) : decode (jm_cod M_Master_tellData) (tab_Master_tellData_c0.getD i (0, .aload_n 1, 1)).1 = .ok ((tab_Master_tellData_c0.getD i (0, .aload_n 1, 1)).2.1, (tab_Master_tellData_c0.getD i (0, .aload_n 1, 1)).2.2) := j_tab (by decide +kernel) i
theorem d_Master_tellData_0 : decode (jm_cod M_Master_tellData) 0 = .ok (.aload_n 1, 1) := dt_Master_tellData_c0 0
theorem d_Master_tellData_1 : decode (jm_cod M_Master_tellData) 1 = .ok (.getfield 83, 3) := dt_Master_tellData_c0 1
theorem d_Master_tellData_4 : decode (jm_cod M_Master_tellData) 4 = .ok (.iconst 1, 1) := dt_Master_tellData_c0 2
theorem d_Master_tellData_5 : decode (jm_cod M_Master_tellData) 5 = .ok (.baload, 1) := dt_Master_tellData_c0 3
theorem d_Master_tellData_6 : decode (jm_cod M_Master_tellData) 6 = .ok (.ifCond .ne 20, 3) := dt_Master_tellData_c0 4
theorem d_Master_tellData_9 : decode (jm_cod M_Master_tellData) 9 = .ok (.aload_n 2, 1) := dt_Master_tellData_c0 5
theorem d_Master_tellData_10 : decode (jm_cod M_Master_tellData) 10 = .ok (.ifnull 16, 3) := dt_Master_tellData_c0 6
theorem d_Master_tellData_13 : decode (jm_cod M_Master_tellData) 13 = .ok (.aload_n 0, 1) := dt_Master_tellData_c0 7
theorem d_Master_tellData_14 : decode (jm_cod M_Master_tellData) 14 = .ok (.getfield 9, 3) := dt_Master_tellData_c0 8
theorem d_Master_tellData_17 : decode (jm_cod M_Master_tellData) 17 = .ok (.iconst 1, 1) := dt_Master_tellData_c0 9
theorem d_Master_tellData_18 : decode (jm_cod M_Master_tellData) 18 = .ok (.iaload, 1) := dt_Master_tellData_c0 10
theorem d_Master_tellData_19 : decode (jm_cod M_Master_tellData) 19 = .ok (.iload_n 3, 1) := dt_Master_tellData_c0 11
theorem d_Master_tellData_20 : decode (jm_cod M_Master_tellData) 20 = .ok (.invokestatic 79, 3) := dt_Master_tellData_c0 12
theorem d_Master_tellData_23 : decode (jm_cod M_Master_tellData) 23 = .ok (.ifCond .ne 4, 3) := dt_Master_tellData_c0 13
theorem d_Master_tellData_26 : decode (jm_cod M_Master_tellData) 26 = .ok (.return_, 1) := dt_Master_tellData_c0 14
theorem d_Master_tellData_27 : decode (jm_cod M_Master_tellData) 27 = .ok (.aload_n 2, 1) := dt_Master_tellData_c0 15
theorem d_Master_tellData_28 : decode (jm_cod M_Master_tellData) 28 = .ok (.getfield 86, 3) := dt_Master_tellData_c0 16
theorem d_Master_tellData_31 : decode (jm_cod M_Master_tellData) 31 = .ok (.astore 4, 2) := dt_Master_tellData_c0 17
theorem d_Master_tellData_33 : decode (jm_cod M_Master_tellData) 33 = .ok (.aload_n 0, 1) := dt_Master_tellData_c0 18
theorem d_Master_tellData_34 : decode (jm_cod M_Master_tellData) 34 = .ok (.getfield 31, 3) := dt_Master_tellData_c0 19
theorem d_Master_tellData_37 : decode (jm_cod M_Master_tellData) 37 = .ok (.ifCond .ne 11, 3) := dt_Master_tellData_c0 20
theorem d_Master_tellData_40 : decode (jm_cod M_Master_tellData) 40 = .ok (.aload_n 2, 1) := dt_Master_tellData_c0 21
theorem d_Master_tellData_41 : decode (jm_cod M_Master_tellData) 41 = .ok (.getfield 100, 3) := dt_Master_tellData_c0 22
theorem d_Master_tellData_44 : decode (jm_cod M_Master_tellData) 44 = .ok (.iconst (-1), 1) := dt_Master_tellData_c0 23
def tab_Master_tellData_c1 : List (Nat × Instr × Nat) := [(45, .if_icmp .eq 40, 3), (48, .aload 4, 2), (50, .getfield 103, 3), (53, .bipush 16, 2), (55, .if_icmp .ge 30, 3), (58, .aload_n 1, 1), (59, .iconst 1, 1), (60, .aload 4, 2), (62, .getfield 106, 3), (65, .aload 4, 2), (67, .getfield 103, 3), (70, .laload, 1), (71, .aload 4, 2), (73, .getfield 110, 3), (76, .aload 4, 2), (78, .getfield 103, 3), (81, .iaload, 1), (82, .invokevirtual 96, 3), (85, .return_, 1)]
theorem dt_Master_tellData_c1 (i : Nat) : decode (jm_cod M_Master_tellData) (tab_Master_tellData_c1.getD i (45, .if_icmp .eq 40, 3)).1 = .ok ((tab_Master_tellData_c1.getD i (45, .if_icmp .eq 40, 3)).2.1, (tab_Master_tellData_c1.getD i (45, .if_icmp .eq 40, 3)).2.2) := j_tab (by decide +kernel) i
theorem d_Master_tellData_45 : decode (jm_cod M_Master_tellData) 45 = .ok (.if_icmp .eq 40, 3) := dt_Master_tellData_c1 0
theorem d_Master_tellData_48 : decode (jm_cod M_Master_tellData) 48 = .ok (.aload 4, 2) := dt_Master_tellData_c1 1
theorem d_Master_tellData_50 : decode (jm_cod M_Master_tellData) 50 = .ok (.getfield 103, 3) := dt_Master_tellData_c1 2
theorem d_Master_tellData_53 : decode (jm_cod M_Master_tellData) 53 = .ok (.bipush 16, 2) := dt_Master_tellData_c1 3
theorem d_Master_tellData_55 : decode (jm_cod M_Master_tellData) 55 = .ok (.if_icmp .ge 30, 3) := dt_Master_tellData_c1 4
theorem d_Master_tellData_58 : decode (jm_cod M_Master_tellData) 58 = .ok (.aload_n 1, 1) := dt_Master_tellData_c1 5
theorem d_Master_tellData_59 : decode (jm_cod M_Master_tellData) 59 = .ok (.iconst 1, 1) := dt_Master_tellData_c1 6
theorem d_Master_tellData_60 : decode (jm_cod M_Master_tellData) 60 = .ok (.aload 4, 2) := dt_Master_tellData_c1 7
theorem d_Master_tellData_62 : decode (jm_cod M_Master_tellData) 62 = .ok (.getfield 106, 3) := dt_Master_tellData_c1 8
theorem d_Master_tellData_65 : decode (jm_cod M_Master_tellData) 65 = .ok (.aload 4, 2) := dt_Master_tellData_c1 9
theorem d_Master_tellData_67 : decode (jm_cod M_Master_tellData) 67 = .ok (.getfield 103, 3) := dt_Master_tellData_c1 10
theorem d_Master_tellData_70 : decode (jm_cod M_Master_tellData) 70 = .ok (.laload, 1) := dt_Master_tellData_c1 11
theorem d_Master_tellData_71 : decode (jm_cod M_Master_tellData) 71 = .ok (.aload 4, 2) := dt_Master_tellData_c1 12
theorem d_Master_tellData_73 : decode (jm_cod M_Master_tellData) 73 = .ok (.getfield 110, 3) := dt_Master_tellData_c1 13
theorem d_Master_tellData_76 : decode (jm_cod M_Master_tellData) 76 = .ok (.aload 4, 2) := dt_Master_tellData_c1 14
theorem d_Master_tellData_78 : decode (jm_cod M_Master_tellData) 78 = .ok (.getfield 103, 3) := dt_Master_tellData_c1 15
theorem d_Master_tellData_81 : decode (jm_cod M_Master_tellData) 81 = .ok (.iaload, 1) := dt_Master_tellData_c1 16
theorem d_Master_tellData_82 : decode (jm_cod M_Master_tellData) 82 = .ok (.invokevirtual 96, 3) := dt_Master_tellData_c1 17
theorem d_Master_tellData_85 : decode (jm_cod M_Master_tellData) 85 = .ok (.return_, 1) := dt_Master_tellData_c1 18
def tab_Master_pass_c0 : List (Nat × Instr × Nat) := [(0, .iload_n 2, 1), (1, .tableswitch 149 0 3 #[31, 62, 84, 118], 31), (32, .aload_n 0, 1), (33, .dup, 1), (34, .getfield 42, 3), (37, .aload_n 0, 1), (38, .getfield 17, 3), (41, .aload_n 0, 1), (42, .getfield 42, 3), (45, .aload_n 0, 1), (46, .getfield 35, 3), (49, .invokestatic 61, 3), (52, .iload_n 3, 1), (53, .invokestatic 113, 3), (56, .iadd, 1), (57, .putfield 42, 3), (60, .goto 116, 3), (63, .aload_n 0, 1), (64, .aload_n 0, 1), (65, .getfield 17, 3), (68, .aload_n 0, 1), (69, .getfield 48, 3), (72, .aload_n 0, 1), (73, .getfield 35, 3)]
theorem dt_Master_pass_c0 (i : Nat) : decode (jm_cod M_Master_pass) (tab_Master_pass_c0.getD i (0, .iload_n 2, 1)).1 = .ok ((tab_Master_pass_c0.getD i (0, .iload_n 2, 1)).2.1, (tab_Master_pass_c0.getD i (0, .iload_n 2, 1)).2.2) := j_tab (by decide +kernel) i
theorem d_Master_pass_0 : decode (jm_cod M_Master_pass) 0 = .ok (.iload_n 2, 1) := dt_Master_pass_c0 0
theorem d_Master_pass_1 : decode (jm_cod M_Master_pass) 1 = .ok (.tableswitch 149 0 3 #[31, 62, 84, 118], 31) := dt_Master_pass_c0 1
theorem d_Master_pass_32 : decode (jm_cod M_Master_pass) 32 = .ok (.aload_n 0, 1) := dt_Master_pass_c0 2
theorem d_Master_pass_33 : decode (jm_cod M_Master_pass) 33 = .ok (.dup, 1) := dt_Master_pass_c0 3
theorem d_Master_pass_34 : decode (jm_cod M_Master_pass) 34 = .ok (.getfield 42, 3) := dt_Master_pass_c0 4
theorem d_Master_pass_37 : decode (jm_cod M_Master_pass) 37 = .ok (.aload_n 0, 1) := dt_Master_pass_c0 5
theorem d_Master_pass_38 : decode (jm_cod M_Master_pass) 38 = .ok (.getfield 17, 3) := dt_Master_pass_c0 6
theorem d_Master_pass_41 : decode (jm_cod M_Master_pass) 41 = .ok (.aload_n 0, 1) := dt_Master_pass_c0 7
theorem d_Master_pass_42 : decode (jm_cod M_Master_pass) 42 = .ok (.getfield 42, 3) := dt_Master_pass_c0 8
theorem d_Master_pass_45 : decode (jm_cod M_Master_pass) 45 = .ok (.aload_n 0, 1) := dt_Master_pass_c0 9
theorem d_Master_pass_46 : decode (jm_cod M_Master_pass) 46 = .ok (.getfield 35, 3) := dt_Master_pass_c0 10
theorem d_Master_pass_49 : decode (jm_cod M_Master_pass) 49 = .ok (.invokestatic 61, 3) := dt_Master_pass_c0 11
theorem d_Master_pass_52 : decode (jm_cod M_Master_pass) 52 = .ok (.iload_n 3, 1) := dt_Master_pass_c0 12
theorem d_Master_pass_53 : decode (jm_cod M_Master_pass) 53 = .ok (.invokestatic 113, 3) := dt_Master_pass_c0 13
theorem d_Master_pass_56 : decode (jm_cod M_Master_pass) 56 = .ok (.iadd, 1) := dt_Master_pass_c0 14
theorem d_Master_pass_57 : decode (jm_cod M_Master_pass) 57 = .ok (.putfield 42, 3) := dt_Master_pass_c0 15
theorem d_Master_pass_60 : decode (jm_cod M_Master_pass) 60 = .ok (.goto 116, 3) := dt_Master_pass_c0 16
theorem d_Master_pass_63 : decode (jm_cod M_Master_pass) 63 = .ok (.aload_n 0, 1) := dt_Master_pass_c0 17
theorem d_Master_pass_64 : decode (jm_cod M_Master_pass) 64 = .ok (.aload_n 0, 1) := dt_Master_pass_c0 18
theorem d_Master_pass_65 : decode (jm_cod M_Master_pass) 65 = .ok (.getfield 17, 3) := dt_Master_pass_c0 19
theorem d_Master_pass_68 : decode (jm_cod M_Master_pass) 68 = .ok (.aload_n 0, 1) := dt_Master_pass_c0 20
theorem d_Master_pass_69 : decode (jm_cod M_Master_pass) 69 = .ok (.getfield 48, 3) := dt_Master_pass_c0 21
theorem d_Master_pass_72 : decode (jm_cod M_Master_pass) 72 = .ok (.aload_n 0, 1) := dt_Master_pass_c0 22
theorem d_Master_pass_73 : decode (jm_cod M_Master_pass) 73 = .ok (.getfield 35, 3) := dt_Master_pass_c0 23
def tab_Master_pass_c1 : List (Nat × Instr × Nat) := [(76, .invokestatic 61, 3), (79, .invokevirtual 117, 3), (82, .goto 94, 3), (85, .aload_n 0, 1), (86, .aload_n 0, 1), (87, .getfield 17, 3), (90, .aload_n 0, 1), (91, .getfield 42, 3), (94, .aload_n 1, 1), (95, .getfield 121, 3), (98, .iconst 2, 1), (99, .iaload, 1), (100, .invokestatic 122, 3), (103, .invokestatic 126, 3), (106, .aload_n 1, 1), (107, .getfield 121, 3), (110, .iconst 2, 1), (111, .iaload, 1), (112, .iload_n 3, 1), (113, .invokevirtual 129, 3), (116, .goto 60, 3), (119, .aload_n 0, 1), (120, .dup, 1), (121, .getfield 45, 3)]
theorem dt_Master_pass_c1 (i : Nat) : decode (jm_cod M_Master_pass) (tab_Master_pass_c1.getD i (76, .invokestatic 61, 3)).1 = .ok ((tab_Master_pass_c1.getD i (76, .invokestatic 61, 3)).2.1, (tab_Master_pass_c1.getD i (76, .invokestatic 61, 3)).2.2) := j_tab (by decide +kernel) i
theorem d_Master_pass_76 : decode (jm_cod M_Master_pass) 76 = .ok (.invokestatic 61, 3) := dt_Master_pass_c1 0
theorem d_Master_pass_79 : decode (jm_cod M_Master_pass) 79 = .ok (.invokevirtual 117, 3) := dt_Master_pass_c1 1
theorem d_Master_pass_82 : decode (jm_cod M_Master_pass) 82 = .ok (.goto 94, 3) := dt_Master_pass_c1 2
theorem d_Master_pass_85 : decode (jm_cod M_Master_pass) 85 = .ok (.aload_n 0, 1) := dt_Master_pass_c1 3
theorem d_Master_pass_86 : decode (jm_cod M_Master_pass) 86 = .ok (.aload_n 0, 1) := dt_Master_pass_c1 4
theorem d_Master_pass_87 : decode (jm_cod M_Master_pass) 87 = .ok (.getfield 17, 3) := dt_Master_pass_c1 5
theorem d_Master_pass_90 : decode (jm_cod M_Master_pass) 90 = .ok (.aload_n 0, 1) := dt_Master_pass_c1 6
theorem d_Master_pass_91 : decode (jm_cod M_Master_pass) 91 = .ok (.getfield 42, 3) := dt_Master_pass_c1 7
theorem d_Master_pass_94 : decode (jm_cod M_Master_pass) 94 = .ok (.aload_n 1, 1) := dt_Master_pass_c1 8
theorem d_Master_pass_95 : decode (jm_cod M_Master_pass) 95 = .ok (.getfield 121, 3) := dt_Master_pass_c1 9
theorem d_Master_pass_98 : decode (jm_cod M_Master_pass) 98 = .ok (.iconst 2, 1) := dt_Master_pass_c1 10
theorem d_Master_pass_99 : decode (jm_cod M_Master_pass) 99 = .ok (.iaload, 1) := dt_Master_pass_c1 11
theorem d_Master_pass_100 : decode (jm_cod M_Master_pass) 100 = .ok (.invokestatic 122, 3) := dt_Master_pass_c1 12
theorem d_Master_pass_103 : decode (jm_cod M_Master_pass) 103 = .ok (.invokestatic 126, 3) := dt_Master_pass_c1 13
theorem d_Master_pass_106 : decode (jm_cod M_Master_pass) 106 = .ok (.aload_n 1, 1) := dt_Master_pass_c1 14
theorem d_Master_pass_107 : decode (jm_cod M_Master_pass) 107 = .ok (.getfield 121, 3) := dt_Master_pass_c1 15
theorem d_Master_pass_110 : decode (jm_cod M_Master_pass) 110 = .ok (.iconst 2, 1) := dt_Master_pass_c1 16
theorem d_Master_pass_111 : decode (jm_cod M_Master_pass) 111 = .ok (.iaload, 1) := dt_Master_pass_c1 17
theorem d_Master_pass_112 : decode (jm_cod M_Master_pass) 112 = .ok (.iload_n 3, 1) := dt_Master_pass_c1 18
theorem d_Master_pass_113 : decode (jm_cod M_Master_pass) 113 = .ok (.invokevirtual 129, 3) := dt_Master_pass_c1 19
theorem d_Master_pass_116 : decode (jm_cod M_Master_pass) 116 = .ok (.goto 60, 3) := dt_Master_pass_c1 20
theorem d_Master_pass_119 : decode (jm_cod M_Master_pass) 119 = .ok (.aload_n 0, 1) := dt_Master_pass_c1 21
theorem d_Master_pass_120 : decode (jm_cod M_Master_pass) 120 = .ok (.dup, 1) := dt_Master_pass_c1 22
theorem d_Master_pass_121 : decode (jm_cod M_Master_pass) 121 = .ok (.getfield 45, 3) := dt_Master_pass_c1 23
def tab_Master_pass_c2 : List (Nat × Instr × Nat) := [(124, .aload_n 0, 1), (125, .getfield 21, 3), (128, .aload_n 0, 1), (129, .getfield 45, 3), (132, .aload_n 0, 1), (133, .getfield 39, 3), (136, .invokestatic 61, 3), (139, .iload_n 3, 1), (140, .invokestatic 113, 3), (143, .iadd, 1), (144, .putfield 45, 3), (147, .goto 29, 3), (150, .aload_n 0, 1), (151, .aload_n 0, 1), (152, .getfield 21, 3), (155, .aload_n 0, 1), (156, .getfield 45, 3), (159, .aload_n 1, 1), (160, .getfield 121, 3), (163, .iconst 4, 1), (164, .iaload, 1), (165, .invokestatic 122, 3), (168, .invokestatic 126, 3), (171, .aload_n 1, 1)]
theorem dt_Master_pass_c2 (i : Nat) : decode (jm_cod M_Master_pass) (tab_Master_pass_c2.getD i (124, .aload_n 0, 1)).1 = .ok ((tab_Master_pass_c2.getD i (124, .aload_n 0, 1)).2.1, (tab_Master_pass_c2.getD i (124, .aload_n 0, 1)).2.2) := j_tab (by decide +kernel) i
theorem d_Master_pass_124 : decode (jm_cod M_Master_pass) 124 = .ok (.aload_n 0, 1) := dt_Master_pass_c2 0
theorem d_Master_pass_125 : decode (jm_cod M_Master_pass) 125 = .ok (.getfield 21, 3) := dt_Master_pass_c2 1
theorem d_Master_pass_128 : decode (jm_cod M_Master_pass) 128 = .ok (.aload_n 0, 1) := dt_Master_pass_c2 2
theorem d_Master_pass_129 : decode (jm_cod M_Master_pass) 129 = .ok (.getfield 45, 3) := dt_Master_pass_c2 3
theorem d_Master_pass_132 : decode (jm_cod M_Master_pass) 132 = .ok (.aload_n 0, 1) := dt_Master_pass_c2 4
theorem d_Master_pass_133 : decode (jm_cod M_Master_pass) 133 = .ok (.getfield 39, 3) := dt_Master_pass_c2 5
theorem d_Master_pass_136 : decode (jm_cod M_Master_pass) 136 = .ok (.invokestatic 61, 3) := dt_Master_pass_c2 6
theorem d_Master_pass_139 : decode (jm_cod M_Master_pass) 139 = .ok (.iload_n 3, 1) := dt_Master_pass_c2 7
theorem d_Master_pass_140 : decode (jm_cod M_Master_pass) 140 = .ok (.invokestatic 113, 3) := dt_Master_pass_c2 8
theorem d_Master_pass_143 : decode (jm_cod M_Master_pass) 143 = .ok (.iadd, 1) := dt_Master_pass_c2 9
theorem d_Master_pass_144 : decode (jm_cod M_Master_pass) 144 = .ok (.putfield 45, 3) := dt_Master_pass_c2 10
theorem d_Master_pass_147 : decode (jm_cod M_Master_pass) 147 = .ok (.goto 29, 3) := dt_Master_pass_c2 11
theorem d_Master_pass_150 : decode (jm_cod M_Master_pass) 150 = .ok (.aload_n 0, 1) := dt_Master_pass_c2 12
theorem d_Master_pass_151 : decode (jm_cod M_Master_pass) 151 = .ok (.aload_n 0, 1) := dt_Master_pass_c2 13
theorem d_Master_pass_152 : decode (jm_cod M_Master_pass) 152 = .ok (.getfield 21, 3) := dt_Master_pass_c2 14
theorem d_Master_pass_155 : decode (jm_cod M_Master_pass) 155 = .ok (.aload_n 0, 1) := dt_Master_pass_c2 15
theorem d_Master_pass_156 : decode (jm_cod M_Master_pass) 156 = .ok (.getfield 45, 3) := dt_Master_pass_c2 16
theorem d_Master_pass_159 : decode (jm_cod M_Master_pass) 159 = .ok (.aload_n 1, 1) := dt_Master_pass_c2 17
theorem d_Master_pass_160 : decode (jm_cod M_Master_pass) 160 = .ok (.getfield 121, 3) := dt_Master_pass_c2 18
theorem d_Master_pass_163 : decode (jm_cod M_Master_pass) 163 = .ok (.iconst 4, 1) := dt_Master_pass_c2 19
theorem d_Master_pass_164 : decode (jm_cod M_Master_pass) 164 = .ok (.iaload, 1) := dt_Master_pass_c2 20
theorem d_Master_pass_165 : decode (jm_cod M_Master_pass) 165 = .ok (.invokestatic 122, 3) := dt_Master_pass_c2 21
theorem d_Master_pass_168 : decode (jm_cod M_Master_pass) 168 = .ok (.invokestatic 126, 3) := dt_Master_pass_c2 22
theorem d_Master_pass_171 : decode (jm_cod M_Master_pass) 171 = .ok (.aload_n 1, 1) := dt_Master_pass_c2 23
def tab_Master_pass_c3 : List (Nat × Instr × Nat) := [(172, .iload_n 3, 1), (173, .invokevirtual 133, 3), (176, .return_, 1)]
theorem dt_Master_pass_c3 (i : Nat) : decode (jm_cod M_Master_pass) (tab_Master_pass_c3.getD i (172, .iload_n 3, 1)).1 = .ok ((tab_Master_pass_c3.getD i (172, .iload_n 3, 1)).2.1, (tab_Master_pass_c3.getD i (172, .iload_n 3, 1)).2.2) := j_tab (by decide +kernel) i
theorem d_Master_pass_172 : decode (jm_cod M_Master_pass) 172 = .ok (.iload_n 3, 1) := dt_Master_pass_c3 0
theorem d_Master_pass_173 : decode (jm_cod M_Master_pass) 173 = .ok (.invokevirtual 133, 3) := dt_Master_pass_c3 1
theorem d_Master_pass_176 : decode (jm_cod M_Master_pass) 176 = .ok (.return_, 1) := dt_Master_pass_c3 2
def tab_Master_stamp_c0 : List (Nat × Instr × Nat) := [(0, .aload_n 0, 1), (1, .ifnonnull 5, 3), (4, .iconst 0, 1), (5, .ireturn, 1), (6, .aload_n 0, 1), (7, .iload_n 1, 1), (8, .putfield 100, 3), (11, .iconst 1, 1), (12, .ireturn, 1)]
theorem dt_Master_stamp_c0 (i : Nat) : decode (jm_cod M_Master_stamp) (tab_Master_stamp_c0.getD i (0, .aload_n 0, 1)).1 = .ok ((tab_Master_stamp_c0.getD i (0, .aload_n 0, 1)).2.1, (tab_Master_stamp_c0.getD i (0, .aload_n 0, 1)).2.2) := j_tab (by decide +kernel) i
theorem d_Master_stamp_0 : decode (jm_cod M_Master_stamp) 0 = .ok (.aload_n 0, 1) := dt_Master_stamp_c0 0
theorem d_Master_stamp_1 : decode (jm_cod M_Master_stamp) 1 = .ok (.ifnonnull 5, 3) := dt_Master_stamp_c0 1
theorem d_Master_stamp_4 : decode (jm_cod M_Master_stamp) 4 = .ok (.iconst 0, 1) := dt_Master_stamp_c0 2
theorem d_Master_stamp_5 : decode (jm_cod M_Master_stamp) 5 = .ok (.ireturn, 1) := dt_Master_stamp_c0 3
theorem d_Master_stamp_6 : decode (jm_cod M_Master_stamp) 6 = .ok (.aload_n 0, 1) := dt_Master_stamp_c0 4
theorem d_Master_stamp_7 : decode (jm_cod M_Master_stamp) 7 = .ok (.iload_n 1, 1) := dt_Master_stamp_c0 5
theorem d_Master_stamp_8 : decode (jm_cod M_Master_stamp) 8 = .ok (.putfield 100, 3) := dt_Master_stamp_c0 6
theorem d_Master_stamp_11 : decode (jm_cod M_Master_stamp) 11 = .ok (.iconst 1, 1) := dt_Master_stamp_c0 7
theorem d_Master_stamp_12 : decode (jm_cod M_Master_stamp) 12 = .ok (.ireturn, 1) := dt_Master_stamp_c0 8
def tab_Master_feed_c0 : List (Nat × Instr × Nat) := [(0, .aload_n 1, 1), (1, .ifnonnull 4, 3), (4, .return_, 1), (5, .aload_n 1, 1), (6, .getfield 86, 3), (9, .dup, 1), (10, .getfield 103, 3), (13, .iconst 1, 1), (14, .iadd, 1), (15, .putfield 103, 3), (18, .aload_n 1, 1), (19, .getfield 86, 3), (22, .getfield 103, 3), (25, .aload_n 1, 1), (26, .getfield 86, 3), (29, .getfield 90, 3), (32, .invokestatic 137, 3), (35, .if_icmp .lt 13, 3), (38, .aload_n 0, 1), (39, .dup, 1), (40, .getfield 48, 3), (43, .iconst 1, 1), (44, .iadd, 1), (45, .putfield 48, 3)]
theorem dt_Master_feed_c0 (i : Nat) : decode (jm_cod M_Master_feed) (tab_Master_feed_c0.getD i (0, .aload_n 1, 1)).1 = .ok ((tab_Master_feed_c0.getD i (0, .aload_n 1, 1)).2.1, (tab_Master_feed_c0.getD i (0, .aload_n 1, 1)).2.2) := j_tab (by decide +kernel) i
theorem d_Master_feed_0 : decode (jm_cod M_Master_feed) 0 = .ok (.aload_n 1, 1) := dt_Master_feed_c0 0
theorem d_Master_feed_1 : decode (jm_cod M_Master_feed) 1 = .ok (.ifnonnull 4, 3) := dt_Master_feed_c0 1
theorem d_Master_feed_4 : decode (jm_cod M_Master_feed) 4 = .ok (.return_, 1) := dt_Master_feed_c0 2
theorem d_Master_feed_5 : decode (jm_cod M_Master_feed) 5 = .ok (.aload_n 1, 1) := dt_Master_feed_c0 3
theorem d_Master_feed_6 : decode (jm_cod M_Master_feed) 6 = .ok (.getfield 86, 3) := dt_Master_feed_c0 4
theorem d_Master_feed_9 : decode (jm_cod M_Master_feed) 9 = .ok (.dup, 1) := dt_Master_feed_c0 5
theorem d_Master_feed_10 : decode (jm_cod M_Master_feed) 10 = .ok (.getfield 103, 3) := dt_Master_feed_c0 6
theorem d_Master_feed_13 : decode (jm_cod M_Master_feed) 13 = .ok (.iconst 1, 1) := dt_Master_feed_c0 7
theorem d_Master_feed_14 : decode (jm_cod M_Master_feed) 14 = .ok (.iadd, 1) := dt_Master_feed_c0 8
theorem d_Master_feed_15 : decode (jm_cod M_Master_feed) 15 = .ok (.putfield 103, 3) := dt_Master_feed_c0 9
theorem d_Master_feed_18 : decode (jm_cod M_Master_feed) 18 = .ok (.aload_n 1, 1) := dt_Master_feed_c0 10
theorem d_Master_feed_19 : decode (jm_cod M_Master_feed) 19 = .ok (.getfield 86, 3) := dt_Master_feed_c0 11
theorem d_Master_feed_22 : decode (jm_cod M_Master_feed) 22 = .ok (.getfield 103, 3) := dt_Master_feed_c0 12
theorem d_Master_feed_25 : decode (jm_cod M_Master_feed) 25 = .ok (.aload_n 1, 1) := dt_Master_feed_c0 13
theorem d_Master_feed_26 : decode (jm_cod M_Master_feed) 26 = .ok (.getfield 86, 3) := dt_Master_feed_c0 14
theorem d_Master_feed_29 : decode (jm_cod M_Master_feed) 29 = .ok (.getfield 90, 3) := dt_Master_feed_c0 15
theorem d_Master_feed_32 : decode (jm_cod M_Master_feed) 32 = .ok (.invokestatic 137, 3) := dt_Master_feed_c0 16
theorem d_Master_feed_35 : decode (jm_cod M_Master_feed) 35 = .ok (.if_icmp .lt 13, 3) := dt_Master_feed_c0 17
theorem d_Master_feed_38 : decode (jm_cod M_Master_feed) 38 = .ok (.aload_n 0, 1) := dt_Master_feed_c0 18
theorem d_Master_feed_39 : decode (jm_cod M_Master_feed) 39 = .ok (.dup, 1) := dt_Master_feed_c0 19
theorem d_Master_feed_40 : decode (jm_cod M_Master_feed) 40 = .ok (.getfield 48, 3) := dt_Master_feed_c0 20
theorem d_Master_feed_43 : decode (jm_cod M_Master_feed) 43 = .ok (.iconst 1, 1) := dt_Master_feed_c0 21
theorem d_Master_feed_44 : decode (jm_cod M_Master_feed) 44 = .ok (.iadd, 1) := dt_Master_feed_c0 22
theorem d_Master_feed_45 : decode (jm_cod M_Master_feed) 45 = .ok (.putfield 48, 3) := dt_Master_feed_c0 23
def tab_Master_feed_c1 : List (Nat × Instr × Nat) := [(48, .return_, 1)]
theorem dt_Master_feed_c1 (i : Nat) : decode (jm_cod M_Master_feed) (tab_Master_feed_c1.getD i (48, .return_, 1)).1 = .ok ((tab_Master_feed_c1.getD i (48, .return_, 1)).2.1, (tab_Master_feed_c1.getD i (48, .return_, 1)).2.2) := j_tab (by decide +kernel) i
theorem d_Master_feed_48 : decode (jm_cod M_Master_feed) 48 = .ok (.return_, 1) := dt_Master_feed_c1 0
def tab_Master_unanswered_c0 : List (Nat × Instr × Nat) := [(0, .iconst 0, 1), (1, .istore_n 3, 1), (2, .iload_n 3, 1), (3, .iload_n 1, 1), (4, .if_icmp .ge 52, 3), (7, .iload_n 3, 1), (8, .aload_n 0, 1), (9, .arraylength, 1), (10, .if_icmp .ge 46, 3), (13, .aload_n 0, 1), (14, .iload_n 3, 1), (15, .aaload, 1), (16, .astore 4, 2), (18, .aload 4, 2), (20, .ifnull 30, 3), (23, .aload 4, 2), (25, .getfield 141, 3), (28, .iconst (-1), 1), (29, .if_icmp .ne 21, 3), (32, .aload 4, 2), (34, .getfield 86, 3), (37, .getfield 90, 3), (40, .invokestatic 144, 3), (43, .iload_n 2, 1)]
theorem dt_Master_unanswered_c0 (i : Nat) : decode (jm_cod M_Master_unanswered) (tab_Master_unanswered_c0.getD i (0, .iconst 0, 1)).1 = .ok ((tab_Master_unanswered_c0.getD i (0, .iconst 0, 1)).2.1, (tab_Master_unanswered_c0.getD i (0, .iconst 0, 1)).2.2) := j_tab (by decide +kernel) i
theorem d_Master_unanswered_0 : decode (jm_cod M_Master_unanswered) 0 = .ok (.iconst 0, 1) := dt_Master_unanswered_c0 0
theorem d_Master_unanswered_1 : decode (jm_cod M_Master_unanswered) 1 = .ok (.istore_n 3, 1) := dt_Master_unanswered_c0 1
theorem d_Master_unanswered_2 : decode (jm_cod M_Master_unanswered) 2 = .ok (.iload_n 3, 1) := dt_Master_unanswered_c0 2
theorem d_Master_unanswered_3 : decode (jm_cod M_Master_unanswered) 3 = .ok (.iload_n 1, 1) := dt_Master_unanswered_c0 3
theorem d_Master_unanswered_4 : decode (jm_cod M_Master_unanswered) 4 = .ok (.if_icmp .ge 52, 3) := dt_Master_unanswered_c0 4
theorem d_Master_unanswered_7 : decode (jm_cod M_Master_unanswered) 7 = .ok (.iload_n 3, 1) := dt_Master_unanswered_c0 5
theorem d_Master_unanswered_8 : decode (jm_cod M_Master_unanswered) 8 = .ok (.aload_n 0, 1) := dt_Master_unanswered_c0 6
theorem d_Master_unanswered_9 : decode (jm_cod M_Master_unanswered) 9 = .ok (.arraylength, 1) := dt_Master_unanswered_c0 7
theorem d_Master_unanswered_10 : decode (jm_cod M_Master_unanswered) 10 = .ok (.if_icmp .ge 46, 3) := dt_Master_unanswered_c0 8
theorem d_Master_unanswered_13 : decode (jm_cod M_Master_unanswered) 13 = .ok (.aload_n 0, 1) := dt_Master_unanswered_c0 9
theorem d_Master_unanswered_14 : decode (jm_cod M_Master_unanswered) 14 = .ok (.iload_n 3, 1) := dt_Master_unanswered_c0 10
theorem d_Master_unanswered_15 : decode (jm_cod M_Master_unanswered) 15 = .ok (.aaload, 1) := dt_Master_unanswered_c0 11
theorem d_Master_unanswered_16 : decode (jm_cod M_Master_unanswered) 16 = .ok (.astore 4, 2) := dt_Master_unanswered_c0 12
theorem d_Master_unanswered_18 : decode (jm_cod M_Master_unanswered) 18 = .ok (.aload 4, 2) := dt_Master_unanswered_c0 13
theorem d_Master_unanswered_20 : decode (jm_cod M_Master_unanswered) 20 = .ok (.ifnull 30, 3) := dt_Master_unanswered_c0 14
theorem d_Master_unanswered_23 : decode (jm_cod M_Master_unanswered) 23 = .ok (.aload 4, 2) := dt_Master_unanswered_c0 15
theorem d_Master_unanswered_25 : decode (jm_cod M_Master_unanswered) 25 = .ok (.getfield 141, 3) := dt_Master_unanswered_c0 16
theorem d_Master_unanswered_28 : decode (jm_cod M_Master_unanswered) 28 = .ok (.iconst (-1), 1) := dt_Master_unanswered_c0 17
theorem d_Master_unanswered_29 : decode (jm_cod M_Master_unanswered) 29 = .ok (.if_icmp .ne 21, 3) := dt_Master_unanswered_c0 18
theorem d_Master_unanswered_32 : decode (jm_cod M_Master_unanswered) 32 = .ok (.aload 4, 2) := dt_Master_unanswered_c0 19
theorem d_Master_unanswered_34 : decode (jm_cod M_Master_unanswered) 34 = .ok (.getfield 86, 3) := dt_Master_unanswered_c0 20
theorem d_Master_unanswered_37 : decode (jm_cod M_Master_unanswered) 37 = .ok (.getfield 90, 3) := dt_Master_unanswered_c0 21
theorem d_Master_unanswered_40 : decode (jm_cod M_Master_unanswered) 40 = .ok (.invokestatic 144, 3) := dt_Master_unanswered_c0 22
theorem d_Master_unanswered_43 : decode (jm_cod M_Master_unanswered) 43 = .ok (.iload_n 2, 1) := dt_Master_unanswered_c0 23
def tab_Master_unanswered_c1 : List (Nat × Instr × Nat) := [(44, .if_icmp .ne 6, 3), (47, .aload 4, 2), (49, .areturn, 1), (50, .iinc 3 1, 3), (53, .goto (-51), 3), (56, .aconst_null, 1), (57, .areturn, 1)]
theorem dt_Master_unanswered_c1 (i : Nat) : decode (jm_cod M_Master_unanswered) (tab_Master_unanswered_c1.getD i (44, .if_icmp .ne 6, 3)).1 = .ok ((tab_Master_unanswered_c1.getD i (44, .if_icmp .ne 6, 3)).2.1, (tab_Master_unanswered_c1.getD i (44, .if_icmp .ne 6, 3)).2.2) := j_tab (by decide +kernel) i
theorem d_Master_unanswered_44 : decode (jm_cod M_Master_unanswered) 44 = .ok (.if_icmp .ne 6, 3) := dt_Master_unanswered_c1 0
theorem d_Master_unanswered_47 : decode (jm_cod M_Master_unanswered) 47 = .ok (.aload 4, 2) := dt_Master_unanswered_c1 1
theorem d_Master_unanswered_49 : decode (jm_cod M_Master_unanswered) 49 = .ok (.areturn, 1) := dt_Master_unanswered_c1 2
theorem d_Master_unanswered_50 : decode (jm_cod M_Master_unanswered) 50 = .ok (.iinc 3 1, 3) := dt_Master_unanswered_c1 3
theorem d_Master_unanswered_53 : decode (jm_cod M_Master_unanswered) 53 = .ok (.goto (-51), 3) := dt_Master_unanswered_c1 4
theorem d_Master_unanswered_56 : decode (jm_cod M_Master_unanswered) 56 = .ok (.aconst_null, 1) := dt_Master_unanswered_c1 5
theorem d_Master_unanswered_57 : decode (jm_cod M_Master_unanswered) 57 = .ok (.areturn, 1) := dt_Master_unanswered_c1 6
def tab_Master_takeAnswer_c0 : List (Nat × Instr × Nat) := [(0, .aload_n 1, 1), (1, .ifnull 17, 3), (4, .aload_n 1, 1), (5, .iload_n 2, 1), (6, .invokestatic 147, 3), (9, .putfield 150, 3), (12, .aload_n 0, 1), (13, .aload_n 1, 1), (14, .iload_n 3, 1), (15, .invokevirtual 153, 3), (18, .return_, 1)]
theorem dt_Master_takeAnswer_c0 (i : Nat) : decode (jm_cod M_Master_takeAnswer) (tab_Master_takeAnswer_c0.getD i (0, .aload_n 1, 1)).1 = .ok ((tab_Master_takeAnswer_c0.getD i (0, .aload_n 1, 1)).2.1, (tab_Master_takeAnswer_c0.getD i (0, .aload_n 1, 1)).2.2) := j_tab (by decide +kernel) i
theorem d_Master_takeAnswer_0 : decode (jm_cod M_Master_takeAnswer) 0 = .ok (.aload_n 1, 1) := dt_Master_takeAnswer_c0 0
theorem d_Master_takeAnswer_1 : decode (jm_cod M_Master_takeAnswer) 1 = .ok (.ifnull 17, 3) := dt_Master_takeAnswer_c0 1
theorem d_Master_takeAnswer_4 : decode (jm_cod M_Master_takeAnswer) 4 = .ok (.aload_n 1, 1) := dt_Master_takeAnswer_c0 2
theorem d_Master_takeAnswer_5 : decode (jm_cod M_Master_takeAnswer) 5 = .ok (.iload_n 2, 1) := dt_Master_takeAnswer_c0 3
theorem d_Master_takeAnswer_6 : decode (jm_cod M_Master_takeAnswer) 6 = .ok (.invokestatic 147, 3) := dt_Master_takeAnswer_c0 4
theorem d_Master_takeAnswer_9 : decode (jm_cod M_Master_takeAnswer) 9 = .ok (.putfield 150, 3) := dt_Master_takeAnswer_c0 5
theorem d_Master_takeAnswer_12 : decode (jm_cod M_Master_takeAnswer) 12 = .ok (.aload_n 0, 1) := dt_Master_takeAnswer_c0 6
theorem d_Master_takeAnswer_13 : decode (jm_cod M_Master_takeAnswer) 13 = .ok (.aload_n 1, 1) := dt_Master_takeAnswer_c0 7
theorem d_Master_takeAnswer_14 : decode (jm_cod M_Master_takeAnswer) 14 = .ok (.iload_n 3, 1) := dt_Master_takeAnswer_c0 8
theorem d_Master_takeAnswer_15 : decode (jm_cod M_Master_takeAnswer) 15 = .ok (.invokevirtual 153, 3) := dt_Master_takeAnswer_c0 9
theorem d_Master_takeAnswer_18 : decode (jm_cod M_Master_takeAnswer) 18 = .ok (.return_, 1) := dt_Master_takeAnswer_c0 10
def tab_Master_finish_c0 : List (Nat × Instr × Nat) := [(0, .aload_n 1, 1), (1, .iload_n 2, 1), (2, .putfield 141, 3), (5, .aload_n 0, 1), (6, .dup, 1), (7, .getfield 51, 3), (10, .iconst 1, 1), (11, .isub, 1), (12, .putfield 51, 3), (15, .return_, 1)]
theorem dt_Master_finish_c0 (i : Nat) : decode (jm_cod M_Master_finish) (tab_Master_finish_c0.getD i (0, .aload_n 1, 1)).1 = .ok ((tab_Master_finish_c0.getD i (0, .aload_n 1, 1)).2.1, (tab_Master_finish_c0.getD i (0, .aload_n 1, 1)).2.2) := j_tab (by decide +kernel) i
theorem d_Master_finish_0 : decode (jm_cod M_Master_finish) 0 = .ok (.aload_n 1, 1) := dt_Master_finish_c0 0
theorem d_Master_finish_1 : decode (jm_cod M_Master_finish) 1 = .ok (.iload_n 2, 1) := dt_Master_finish_c0 1
theorem d_Master_finish_2 : decode (jm_cod M_Master_finish) 2 = .ok (.putfield 141, 3) := dt_Master_finish_c0 2
theorem d_Master_finish_5 : decode (jm_cod M_Master_finish) 5 = .ok (.aload_n 0, 1) := dt_Master_finish_c0 3
theorem d_Master_finish_6 : decode (jm_cod M_Master_finish) 6 = .ok (.dup, 1) := dt_Master_finish_c0 4
theorem d_Master_finish_7 : decode (jm_cod M_Master_finish) 7 = .ok (.getfield 51, 3) := dt_Master_finish_c0 5
theorem d_Master_finish_10 : decode (jm_cod M_Master_finish) 10 = .ok (.iconst 1, 1) := dt_Master_finish_c0 6
theorem d_Master_finish_11 : decode (jm_cod M_Master_finish) 11 = .ok (.isub, 1) := dt_Master_finish_c0 7
theorem d_Master_finish_12 : decode (jm_cod M_Master_finish) 12 = .ok (.putfield 51, 3) := dt_Master_finish_c0 8
theorem d_Master_finish_15 : decode (jm_cod M_Master_finish) 15 = .ok (.return_, 1) := dt_Master_finish_c0 9
def tab_Master_takeBeat_c0 : List (Nat × Instr × Nat) := [(0, .aload_n 1, 1), (1, .ifnonnull 4, 3), (4, .return_, 1), (5, .aload_n 1, 1), (6, .getfield 86, 3), (9, .aload_n 2, 1), (10, .getfield 157, 3), (13, .iconst 4, 1), (14, .laload, 1), (15, .aload_n 2, 1), (16, .getfield 121, 3), (19, .iconst 4, 1), (20, .iaload, 1), (21, .invokevirtual 160, 3), (24, .aload_n 1, 1), (25, .aload_n 1, 1), (26, .getfield 150, 3), (29, .aload_n 2, 1), (30, .getfield 121, 3), (33, .iconst 4, 1), (34, .iaload, 1), (35, .invokestatic 147, 3), (38, .invokestatic 163, 3), (41, .putfield 150, 3)]
theorem dt_Master_takeBeat_c0 (i : Nat) : decode (jm_cod M_Master_takeBeat) (tab_Master_takeBeat_c0.getD i (0, .aload_n 1, 1)).1 = .ok ((tab_Master_takeBeat_c0.getD i (0, .aload_n 1, 1)).2.1, (tab_Master_takeBeat_c0.getD i (0, .aload_n 1, 1)).2.2) := j_tab (by decide +kernel) i
theorem d_Master_takeBeat_0 : decode (jm_cod M_Master_takeBeat) 0 = .ok (.aload_n 1, 1) := dt_Master_takeBeat_c0 0
theorem d_Master_takeBeat_1 : decode (jm_cod M_Master_takeBeat) 1 = .ok (.ifnonnull 4, 3) := dt_Master_takeBeat_c0 1
theorem d_Master_takeBeat_4 : decode (jm_cod M_Master_takeBeat) 4 = .ok (.return_, 1) := dt_Master_takeBeat_c0 2
theorem d_Master_takeBeat_5 : decode (jm_cod M_Master_takeBeat) 5 = .ok (.aload_n 1, 1) := dt_Master_takeBeat_c0 3
theorem d_Master_takeBeat_6 : decode (jm_cod M_Master_takeBeat) 6 = .ok (.getfield 86, 3) := dt_Master_takeBeat_c0 4
theorem d_Master_takeBeat_9 : decode (jm_cod M_Master_takeBeat) 9 = .ok (.aload_n 2, 1) := dt_Master_takeBeat_c0 5
theorem d_Master_takeBeat_10 : decode (jm_cod M_Master_takeBeat) 10 = .ok (.getfield 157, 3) := dt_Master_takeBeat_c0 6
theorem d_Master_takeBeat_13 : decode (jm_cod M_Master_takeBeat) 13 = .ok (.iconst 4, 1) := dt_Master_takeBeat_c0 7
theorem d_Master_takeBeat_14 : decode (jm_cod M_Master_takeBeat) 14 = .ok (.laload, 1) := dt_Master_takeBeat_c0 8
theorem d_Master_takeBeat_15 : decode (jm_cod M_Master_takeBeat) 15 = .ok (.aload_n 2, 1) := dt_Master_takeBeat_c0 9
theorem d_Master_takeBeat_16 : decode (jm_cod M_Master_takeBeat) 16 = .ok (.getfield 121, 3) := dt_Master_takeBeat_c0 10
theorem d_Master_takeBeat_19 : decode (jm_cod M_Master_takeBeat) 19 = .ok (.iconst 4, 1) := dt_Master_takeBeat_c0 11
theorem d_Master_takeBeat_20 : decode (jm_cod M_Master_takeBeat) 20 = .ok (.iaload, 1) := dt_Master_takeBeat_c0 12
theorem d_Master_takeBeat_21 : decode (jm_cod M_Master_takeBeat) 21 = .ok (.invokevirtual 160, 3) := dt_Master_takeBeat_c0 13
theorem d_Master_takeBeat_24 : decode (jm_cod M_Master_takeBeat) 24 = .ok (.aload_n 1, 1) := dt_Master_takeBeat_c0 14
theorem d_Master_takeBeat_25 : decode (jm_cod M_Master_takeBeat) 25 = .ok (.aload_n 1, 1) := dt_Master_takeBeat_c0 15
theorem d_Master_takeBeat_26 : decode (jm_cod M_Master_takeBeat) 26 = .ok (.getfield 150, 3) := dt_Master_takeBeat_c0 16
theorem d_Master_takeBeat_29 : decode (jm_cod M_Master_takeBeat) 29 = .ok (.aload_n 2, 1) := dt_Master_takeBeat_c0 17
theorem d_Master_takeBeat_30 : decode (jm_cod M_Master_takeBeat) 30 = .ok (.getfield 121, 3) := dt_Master_takeBeat_c0 18
theorem d_Master_takeBeat_33 : decode (jm_cod M_Master_takeBeat) 33 = .ok (.iconst 4, 1) := dt_Master_takeBeat_c0 19
theorem d_Master_takeBeat_34 : decode (jm_cod M_Master_takeBeat) 34 = .ok (.iaload, 1) := dt_Master_takeBeat_c0 20
theorem d_Master_takeBeat_35 : decode (jm_cod M_Master_takeBeat) 35 = .ok (.invokestatic 147, 3) := dt_Master_takeBeat_c0 21
theorem d_Master_takeBeat_38 : decode (jm_cod M_Master_takeBeat) 38 = .ok (.invokestatic 163, 3) := dt_Master_takeBeat_c0 22
theorem d_Master_takeBeat_41 : decode (jm_cod M_Master_takeBeat) 41 = .ok (.putfield 150, 3) := dt_Master_takeBeat_c0 23
def tab_Master_takeBeat_c1 : List (Nat × Instr × Nat) := [(44, .aload_n 1, 1), (45, .getfield 86, 3), (48, .getfield 103, 3), (51, .aload_n 1, 1), (52, .getfield 86, 3), (55, .getfield 90, 3), (58, .invokestatic 137, 3), (61, .if_icmp .lt 9, 3), (64, .aload_n 0, 1), (65, .aload_n 1, 1), (66, .iload_n 3, 1), (67, .invokevirtual 153, 3), (70, .return_, 1)]
theorem dt_Master_takeBeat_c1 (i : Nat) : decode (jm_cod M_Master_takeBeat) (tab_Master_takeBeat_c1.getD i (44, .aload_n 1, 1)).1 = .ok ((tab_Master_takeBeat_c1.getD i (44, .aload_n 1, 1)).2.1, (tab_Master_takeBeat_c1.getD i (44, .aload_n 1, 1)).2.2) := j_tab (by decide +kernel) i
theorem d_Master_takeBeat_44 : decode (jm_cod M_Master_takeBeat) 44 = .ok (.aload_n 1, 1) := dt_Master_takeBeat_c1 0
theorem d_Master_takeBeat_45 : decode (jm_cod M_Master_takeBeat) 45 = .ok (.getfield 86, 3) := dt_Master_takeBeat_c1 1
theorem d_Master_takeBeat_48 : decode (jm_cod M_Master_takeBeat) 48 = .ok (.getfield 103, 3) := dt_Master_takeBeat_c1 2
theorem d_Master_takeBeat_51 : decode (jm_cod M_Master_takeBeat) 51 = .ok (.aload_n 1, 1) := dt_Master_takeBeat_c1 3
theorem d_Master_takeBeat_52 : decode (jm_cod M_Master_takeBeat) 52 = .ok (.getfield 86, 3) := dt_Master_takeBeat_c1 4
theorem d_Master_takeBeat_55 : decode (jm_cod M_Master_takeBeat) 55 = .ok (.getfield 90, 3) := dt_Master_takeBeat_c1 5
theorem d_Master_takeBeat_58 : decode (jm_cod M_Master_takeBeat) 58 = .ok (.invokestatic 137, 3) := dt_Master_takeBeat_c1 6
theorem d_Master_takeBeat_61 : decode (jm_cod M_Master_takeBeat) 61 = .ok (.if_icmp .lt 9, 3) := dt_Master_takeBeat_c1 7
theorem d_Master_takeBeat_64 : decode (jm_cod M_Master_takeBeat) 64 = .ok (.aload_n 0, 1) := dt_Master_takeBeat_c1 8
theorem d_Master_takeBeat_65 : decode (jm_cod M_Master_takeBeat) 65 = .ok (.aload_n 1, 1) := dt_Master_takeBeat_c1 9
theorem d_Master_takeBeat_66 : decode (jm_cod M_Master_takeBeat) 66 = .ok (.iload_n 3, 1) := dt_Master_takeBeat_c1 10
theorem d_Master_takeBeat_67 : decode (jm_cod M_Master_takeBeat) 67 = .ok (.invokevirtual 153, 3) := dt_Master_takeBeat_c1 11
theorem d_Master_takeBeat_70 : decode (jm_cod M_Master_takeBeat) 70 = .ok (.return_, 1) := dt_Master_takeBeat_c1 12
