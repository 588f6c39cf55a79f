def tab_Request_init_c0 : List (Nat × Instr × Nat) := [(0, .aload_n 0, 1), (1, .invokespecial 3, 3), (4, .aload_n 0, 1), (5, .new 9, 3), (8, .dup, 1), (9, .invokespecial 11, 3), (12, .putfield 12, 3), (15, .return_, 1)]
theorem dt_Request_init_c0 (i : Nat) : decode (jm_cod M_Request_init) (tab_Request_init_c0.getD i (0, .aload_n 0, 1)).1 = .ok ((tab_Request_init_c0.getD i (0, .aload_n 0, 1)).2.1, (tab_Request_init_c0.getD i (0, .aload_n 0, 1)).2.2) := j_tab (by decide +kernel) i
theorem d_Request_init_0 : decode (jm_cod M_Request_init) 0 = .ok (.aload_n 0, 1) := dt_Request_init_c0 0
theorem d_Request_init_1 : decode (jm_cod M_Request_init) 1 = .ok (.invokespecial 3, 3) := dt_Request_init_c0 1
theorem d_Request_init_4 : decode (jm_cod M_Request_init) 4 = .ok (.aload_n 0, 1) := dt_Request_init_c0 2
theorem d_Request_init_5 : decode (jm_cod M_Request_init) 5 = .ok (.new 9, 3) := dt_Request_init_c0 3
theorem d_Request_init_8 : decode (jm_cod M_Request_init) 8 = .ok (.dup, 1) := dt_Request_init_c0 4
theorem d_Request_init_9 : decode (jm_cod M_Request_init) 9 = .ok (.invokespecial 11, 3) := dt_Request_init_c0 5
theorem d_Request_init_12 : decode (jm_cod M_Request_init) 12 = .ok (.putfield 12, 3) := dt_Request_init_c0 6
theorem d_Request_init_15 : decode (jm_cod M_Request_init) 15 = .ok (.return_, 1) := dt_Request_init_c0 7
def tab_Request_start_c0 : List (Nat × Instr × Nat) := [(0, .aload_n 0, 1), (1, .getfield 12, 3), (4, .lload_n 1, 1), (5, .invokevirtual 18, 3), (8, .aload_n 0, 1), (9, .iload_n 3, 1), (10, .putfield 22, 3), (13, .aload_n 0, 1), (14, .iload 4, 2), (16, .putfield 26, 3), (19, .aload_n 0, 1), (20, .iconst (-1), 1), (21, .putfield 30, 3), (24, .aload_n 0, 1), (25, .iconst (-1), 1), (26, .putfield 33, 3), (29, .aload_n 0, 1), (30, .iconst 0, 1), (31, .putfield 36, 3), (34, .return_, 1)]
theorem dt_Request_start_c0 (i : Nat) : decode (jm_cod M_Request_start) (tab_Request_start_c0.getD i (0, .aload_n 0, 1)).1 = .ok ((tab_Request_start_c0.getD i (0, .aload_n 0, 1)).2.1, (tab_Request_start_c0.getD i (0, .aload_n 0, 1)).2.2) := j_tab (by decide +kernel) i
theorem d_Request_start_0 : decode (jm_cod M_Request_start) 0 = .ok (.aload_n 0, 1) := dt_Request_start_c0 0
theorem d_Request_start_1 : decode (jm_cod M_Request_start) 1 = .ok (.getfield 12, 3) := dt_Request_start_c0 1
theorem d_Request_start_4 : decode (jm_cod M_Request_start) 4 = .ok (.lload_n 1, 1) := dt_Request_start_c0 2
theorem d_Request_start_5 : decode (jm_cod M_Request_start) 5 = .ok (.invokevirtual 18, 3) := dt_Request_start_c0 3
theorem d_Request_start_8 : decode (jm_cod M_Request_start) 8 = .ok (.aload_n 0, 1) := dt_Request_start_c0 4
theorem d_Request_start_9 : decode (jm_cod M_Request_start) 9 = .ok (.iload_n 3, 1) := dt_Request_start_c0 5
theorem d_Request_start_10 : decode (jm_cod M_Request_start) 10 = .ok (.putfield 22, 3) := dt_Request_start_c0 6
theorem d_Request_start_13 : decode (jm_cod M_Request_start) 13 = .ok (.aload_n 0, 1) := dt_Request_start_c0 7
theorem d_Request_start_14 : decode (jm_cod M_Request_start) 14 = .ok (.iload 4, 2) := dt_Request_start_c0 8
theorem d_Request_start_16 : decode (jm_cod M_Request_start) 16 = .ok (.putfield 26, 3) := dt_Request_start_c0 9
theorem d_Request_start_19 : decode (jm_cod M_Request_start) 19 = .ok (.aload_n 0, 1) := dt_Request_start_c0 10
theorem d_Request_start_20 : decode (jm_cod M_Request_start) 20 = .ok (.iconst (-1), 1) := dt_Request_start_c0 11
theorem d_Request_start_21 : decode (jm_cod M_Request_start) 21 = .ok (.putfield 30, 3) := dt_Request_start_c0 12
theorem d_Request_start_24 : decode (jm_cod M_Request_start) 24 = .ok (.aload_n 0, 1) := dt_Request_start_c0 13
theorem d_Request_start_25 : decode (jm_cod M_Request_start) 25 = .ok (.iconst (-1), 1) := dt_Request_start_c0 14
theorem d_Request_start_26 : decode (jm_cod M_Request_start) 26 = .ok (.putfield 33, 3) := dt_Request_start_c0 15
theorem d_Request_start_29 : decode (jm_cod M_Request_start) 29 = .ok (.aload_n 0, 1) := dt_Request_start_c0 16
theorem d_Request_start_30 : decode (jm_cod M_Request_start) 30 = .ok (.iconst 0, 1) := dt_Request_start_c0 17
theorem d_Request_start_31 : decode (jm_cod M_Request_start) 31 = .ok (.putfield 36, 3) := dt_Request_start_c0 18
theorem d_Request_start_34 : decode (jm_cod M_Request_start) 34 = .ok (.return_, 1) := dt_Request_start_c0 19
def tab_Request_stage_c0 : List (Nat × Instr × Nat) := [(0, .aload_n 0, 1), (1, .getfield 33, 3), (4, .iconst (-1), 1), (5, .if_icmp .eq 5, 3), (8, .iconst 2, 1), (9, .ireturn, 1), (10, .aload_n 0, 1), (11, .getfield 30, 3), (14, .iconst (-1), 1), (15, .if_icmp .ne 7, 3), (18, .iconst 0, 1), (19, .goto 4, 3), (22, .iconst 1, 1), (23, .ireturn, 1)]
theorem dt_Request_stage_c0 (i : Nat) : decode (jm_cod M_Request_stage) (tab_Request_stage_c0.getD i (0, .aload_n 0, 1)).1 = .ok ((tab_Request_stage_c0.getD i (0, .aload_n 0, 1)).2.1, (tab_Request_stage_c0.getD i (0, .aload_n 0, 1)).2.2) := j_tab (by decide +kernel) i
theorem d_Request_stage_0 : decode (jm_cod M_Request_stage) 0 = .ok (.aload_n 0, 1) := dt_Request_stage_c0 0
theorem d_Request_stage_1 : decode (jm_cod M_Request_stage) 1 = .ok (.getfield 33, 3) := dt_Request_stage_c0 1
theorem d_Request_stage_4 : decode (jm_cod M_Request_stage) 4 = .ok (.iconst (-1), 1) := dt_Request_stage_c0 2
theorem d_Request_stage_5 : decode (jm_cod M_Request_stage) 5 = .ok (.if_icmp .eq 5, 3) := dt_Request_stage_c0 3
theorem d_Request_stage_8 : decode (jm_cod M_Request_stage) 8 = .ok (.iconst 2, 1) := dt_Request_stage_c0 4
theorem d_Request_stage_9 : decode (jm_cod M_Request_stage) 9 = .ok (.ireturn, 1) := dt_Request_stage_c0 5
theorem d_Request_stage_10 : decode (jm_cod M_Request_stage) 10 = .ok (.aload_n 0, 1) := dt_Request_stage_c0 6
theorem d_Request_stage_11 : decode (jm_cod M_Request_stage) 11 = .ok (.getfield 30, 3) := dt_Request_stage_c0 7
theorem d_Request_stage_14 : decode (jm_cod M_Request_stage) 14 = .ok (.iconst (-1), 1) := dt_Request_stage_c0 8
theorem d_Request_stage_15 : decode (jm_cod M_Request_stage) 15 = .ok (.if_icmp .ne 7, 3) := dt_Request_stage_c0 9
theorem d_Request_stage_18 : decode (jm_cod M_Request_stage) 18 = .ok (.iconst 0, 1) := dt_Request_stage_c0 10
theorem d_Request_stage_19 : decode (jm_cod M_Request_stage) 19 = .ok (.goto 4, 3) := dt_Request_stage_c0 11
theorem d_Request_stage_22 : decode (jm_cod M_Request_stage) 22 = .ok (.iconst 1, 1) := dt_Request_stage_c0 12
theorem d_Request_stage_23 : decode (jm_cod M_Request_stage) 23 = .ok (.ireturn, 1) := dt_Request_stage_c0 13
