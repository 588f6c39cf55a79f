def tab_Law_cell_c0 : List (Nat × Instr × Nat) := [(0, .iload_n 1, 1), (1, .aload_n 0, 1), (2, .arraylength, 1), (3, .if_icmp .ge 9, 3), (6, .aload_n 0, 1), (7, .iload_n 1, 1), (8, .iaload, 1), (9, .goto 4, 3), (12, .iconst 0, 1), (13, .ireturn, 1)]
theorem dt_Law_cell_c0 (i : Nat) : decode (jm_cod M_Law_cell) (tab_Law_cell_c0.getD i (0, .iload_n 1, 1)).1 = .ok ((tab_Law_cell_c0.getD i (0, .iload_n 1, 1)).2.1, (tab_Law_cell_c0.getD i (0, .iload_n 1, 1)).2.2) := j_tab (by decide +kernel) i
theorem d_Law_cell_0 : decode (jm_cod M_Law_cell) 0 = .ok (.iload_n 1, 1) := dt_Law_cell_c0 0
theorem d_Law_cell_1 : decode (jm_cod M_Law_cell) 1 = .ok (.aload_n 0, 1) := dt_Law_cell_c0 1
theorem d_Law_cell_2 : decode (jm_cod M_Law_cell) 2 = .ok (.arraylength, 1) := dt_Law_cell_c0 2
theorem d_Law_cell_3 : decode (jm_cod M_Law_cell) 3 = .ok (.if_icmp .ge 9, 3) := dt_Law_cell_c0 3
theorem d_Law_cell_6 : decode (jm_cod M_Law_cell) 6 = .ok (.aload_n 0, 1) := dt_Law_cell_c0 4
theorem d_Law_cell_7 : decode (jm_cod M_Law_cell) 7 = .ok (.iload_n 1, 1) := dt_Law_cell_c0 5
theorem d_Law_cell_8 : decode (jm_cod M_Law_cell) 8 = .ok (.iaload, 1) := dt_Law_cell_c0 6
theorem d_Law_cell_9 : decode (jm_cod M_Law_cell) 9 = .ok (.goto 4, 3) := dt_Law_cell_c0 7
theorem d_Law_cell_12 : decode (jm_cod M_Law_cell) 12 = .ok (.iconst 0, 1) := dt_Law_cell_c0 8
theorem d_Law_cell_13 : decode (jm_cod M_Law_cell) 13 = .ok (.ireturn, 1) := dt_Law_cell_c0 9
def tab_Law_map_c0 : List (Nat × Instr × Nat) := [(0, .aload_n 3, 1), (1, .iconst 0, 1), (2, .aload_n 0, 1), (3, .iload_n 1, 1), (4, .iload_n 2, 1), (5, .invokevirtual 7, 3), (8, .i2l, 1), (9, .lastore, 1), (10, .goto 11, 3), (13, .astore 4, 2), (15, .iconst 1, 1), (16, .ireturn, 1), (17, .astore 4, 2), (19, .iconst 2, 1), (20, .ireturn, 1), (21, .iconst 0, 1), (22, .ireturn, 1)]
theorem dt_Law_map_c0 (i : Nat) : decode (jm_cod M_Law_map) (tab_Law_map_c0.getD i (0, .aload_n 3, 1)).1 = .ok ((tab_Law_map_c0.getD i (0, .aload_n 3, 1)).2.1, (tab_Law_map_c0.getD i (0, .aload_n 3, 1)).2.2) := j_tab (by decide +kernel) i
theorem d_Law_map_0 : decode (jm_cod M_Law_map) 0 = .ok (.aload_n 3, 1) := dt_Law_map_c0 0
theorem d_Law_map_1 : decode (jm_cod M_Law_map) 1 = .ok (.iconst 0, 1) := dt_Law_map_c0 1
theorem d_Law_map_2 : decode (jm_cod M_Law_map) 2 = .ok (.aload_n 0, 1) := dt_Law_map_c0 2
theorem d_Law_map_3 : decode (jm_cod M_Law_map) 3 = .ok (.iload_n 1, 1) := dt_Law_map_c0 3
theorem d_Law_map_4 : decode (jm_cod M_Law_map) 4 = .ok (.iload_n 2, 1) := dt_Law_map_c0 4
theorem d_Law_map_5 : decode (jm_cod M_Law_map) 5 = .ok (.invokevirtual 7, 3) := dt_Law_map_c0 5
theorem d_Law_map_8 : decode (jm_cod M_Law_map) 8 = .ok (.i2l, 1) := dt_Law_map_c0 6
theorem d_Law_map_9 : decode (jm_cod M_Law_map) 9 = .ok (.lastore, 1) := dt_Law_map_c0 7
theorem d_Law_map_10 : decode (jm_cod M_Law_map) 10 = .ok (.goto 11, 3) := dt_Law_map_c0 8
theorem d_Law_map_13 : decode (jm_cod M_Law_map) 13 = .ok (.astore 4, 2) := dt_Law_map_c0 9
theorem d_Law_map_15 : decode (jm_cod M_Law_map) 15 = .ok (.iconst 1, 1) := dt_Law_map_c0 10
theorem d_Law_map_16 : decode (jm_cod M_Law_map) 16 = .ok (.ireturn, 1) := dt_Law_map_c0 11
theorem d_Law_map_17 : decode (jm_cod M_Law_map) 17 = .ok (.astore 4, 2) := dt_Law_map_c0 12
theorem d_Law_map_19 : decode (jm_cod M_Law_map) 19 = .ok (.iconst 2, 1) := dt_Law_map_c0 13
theorem d_Law_map_20 : decode (jm_cod M_Law_map) 20 = .ok (.ireturn, 1) := dt_Law_map_c0 14
theorem d_Law_map_21 : decode (jm_cod M_Law_map) 21 = .ok (.iconst 0, 1) := dt_Law_map_c0 15
theorem d_Law_map_22 : decode (jm_cod M_Law_map) 22 = .ok (.ireturn, 1) := dt_Law_map_c0 16
def tab_Law_policy_c0 : List (Nat × Instr × Nat) := [(0, .aload_n 3, 1), (1, .iconst 0, 1), (2, .aload_n 0, 1), (3, .iload_n 1, 1), (4, .iload_n 2, 1), (5, .invokevirtual 17, 3), (8, .i2l, 1), (9, .lastore, 1), (10, .goto 7, 3), (13, .astore 4, 2), (15, .iconst 1, 1), (16, .ireturn, 1), (17, .iconst 0, 1), (18, .ireturn, 1)]
theorem dt_Law_policy_c0 (i : Nat) : decode (jm_cod M_Law_policy) (tab_Law_policy_c0.getD i (0, .aload_n 3, 1)).1 = .ok ((tab_Law_policy_c0.getD i (0, .aload_n 3, 1)).2.1, (tab_Law_policy_c0.getD i (0, .aload_n 3, 1)).2.2) := j_tab (by decide +kernel) i
theorem d_Law_policy_0 : decode (jm_cod M_Law_policy) 0 = .ok (.aload_n 3, 1) := dt_Law_policy_c0 0
theorem d_Law_policy_1 : decode (jm_cod M_Law_policy) 1 = .ok (.iconst 0, 1) := dt_Law_policy_c0 1
theorem d_Law_policy_2 : decode (jm_cod M_Law_policy) 2 = .ok (.aload_n 0, 1) := dt_Law_policy_c0 2
theorem d_Law_policy_3 : decode (jm_cod M_Law_policy) 3 = .ok (.iload_n 1, 1) := dt_Law_policy_c0 3
theorem d_Law_policy_4 : decode (jm_cod M_Law_policy) 4 = .ok (.iload_n 2, 1) := dt_Law_policy_c0 4
theorem d_Law_policy_5 : decode (jm_cod M_Law_policy) 5 = .ok (.invokevirtual 17, 3) := dt_Law_policy_c0 5
theorem d_Law_policy_8 : decode (jm_cod M_Law_policy) 8 = .ok (.i2l, 1) := dt_Law_policy_c0 6
theorem d_Law_policy_9 : decode (jm_cod M_Law_policy) 9 = .ok (.lastore, 1) := dt_Law_policy_c0 7
theorem d_Law_policy_10 : decode (jm_cod M_Law_policy) 10 = .ok (.goto 7, 3) := dt_Law_policy_c0 8
theorem d_Law_policy_13 : decode (jm_cod M_Law_policy) 13 = .ok (.astore 4, 2) := dt_Law_policy_c0 9
theorem d_Law_policy_15 : decode (jm_cod M_Law_policy) 15 = .ok (.iconst 1, 1) := dt_Law_policy_c0 10
theorem d_Law_policy_16 : decode (jm_cod M_Law_policy) 16 = .ok (.ireturn, 1) := dt_Law_policy_c0 11
theorem d_Law_policy_17 : decode (jm_cod M_Law_policy) 17 = .ok (.iconst 0, 1) := dt_Law_policy_c0 12
theorem d_Law_policy_18 : decode (jm_cod M_Law_policy) 18 = .ok (.ireturn, 1) := dt_Law_policy_c0 13
def tab_Law_master_c0 : List (Nat × Instr × Nat) := [(0, .aload 4, 2), (2, .iconst 0, 1), (3, .aload_n 0, 1), (4, .iload_n 1, 1), (5, .iload_n 2, 1), (6, .iload_n 3, 1), (7, .invokevirtual 23, 3), (10, .i2l, 1), (11, .lastore, 1), (12, .goto 7, 3), (15, .astore 5, 2), (17, .iconst 1, 1), (18, .ireturn, 1), (19, .iconst 0, 1), (20, .ireturn, 1)]
theorem dt_Law_master_c0 (i : Nat) : decode (jm_cod M_Law_master) (tab_Law_master_c0.getD i (0, .aload 4, 2)).1 = .ok ((tab_Law_master_c0.getD i (0, .aload 4, 2)).2.1, (tab_Law_master_c0.getD i (0, .aload 4, 2)).2.2) := j_tab (by decide +kernel) i
theorem d_Law_master_0 : decode (jm_cod M_Law_master) 0 = .ok (.aload 4, 2) := dt_Law_master_c0 0
theorem d_Law_master_2 : decode (jm_cod M_Law_master) 2 = .ok (.iconst 0, 1) := dt_Law_master_c0 1
theorem d_Law_master_3 : decode (jm_cod M_Law_master) 3 = .ok (.aload_n 0, 1) := dt_Law_master_c0 2
theorem d_Law_master_4 : decode (jm_cod M_Law_master) 4 = .ok (.iload_n 1, 1) := dt_Law_master_c0 3
theorem d_Law_master_5 : decode (jm_cod M_Law_master) 5 = .ok (.iload_n 2, 1) := dt_Law_master_c0 4
theorem d_Law_master_6 : decode (jm_cod M_Law_master) 6 = .ok (.iload_n 3, 1) := dt_Law_master_c0 5
theorem d_Law_master_7 : decode (jm_cod M_Law_master) 7 = .ok (.invokevirtual 23, 3) := dt_Law_master_c0 6
theorem d_Law_master_10 : decode (jm_cod M_Law_master) 10 = .ok (.i2l, 1) := dt_Law_master_c0 7
theorem d_Law_master_11 : decode (jm_cod M_Law_master) 11 = .ok (.lastore, 1) := dt_Law_master_c0 8
theorem d_Law_master_12 : decode (jm_cod M_Law_master) 12 = .ok (.goto 7, 3) := dt_Law_master_c0 9
theorem d_Law_master_15 : decode (jm_cod M_Law_master) 15 = .ok (.astore 5, 2) := dt_Law_master_c0 10
theorem d_Law_master_17 : decode (jm_cod M_Law_master) 17 = .ok (.iconst 1, 1) := dt_Law_master_c0 11
theorem d_Law_master_18 : decode (jm_cod M_Law_master) 18 = .ok (.ireturn, 1) := dt_Law_master_c0 12
theorem d_Law_master_19 : decode (jm_cod M_Law_master) 19 = .ok (.iconst 0, 1) := dt_Law_master_c0 13
theorem d_Law_master_20 : decode (jm_cod M_Law_master) 20 = .ok (.ireturn, 1) := dt_Law_master_c0 14
def tab_Law_early_c0 : List (Nat × Instr × Nat) := [(0, .aload_n 3, 1), (1, .iconst 0, 1), (2, .aload_n 0, 1), (3, .iload_n 1, 1), (4, .iload_n 2, 1), (5, .invokevirtual 27, 3), (8, .ifCond .eq 7, 3), (11, .lconst 1, 1), (12, .goto 4, 3), (15, .lconst 0, 1), (16, .lastore, 1), (17, .goto 7, 3), (20, .astore 4, 2), (22, .iconst 1, 1), (23, .ireturn, 1), (24, .iconst 0, 1), (25, .ireturn, 1)]
theorem dt_Law_early_c0 (i : Nat) : decode (jm_cod M_Law_early) (tab_Law_early_c0.getD i (0, .aload_n 3, 1)).1 = .ok ((tab_Law_early_c0.getD i (0, .aload_n 3, 1)).2.1, (tab_Law_early_c0.getD i (0, .aload_n 3, 1)).2.2) := j_tab (by decide +kernel) i
theorem d_Law_early_0 : decode (jm_cod M_Law_early) 0 = .ok (.aload_n 3, 1) := dt_Law_early_c0 0
theorem d_Law_early_1 : decode (jm_cod M_Law_early) 1 = .ok (.iconst 0, 1) := dt_Law_early_c0 1
theorem d_Law_early_2 : decode (jm_cod M_Law_early) 2 = .ok (.aload_n 0, 1) := dt_Law_early_c0 2
theorem d_Law_early_3 : decode (jm_cod M_Law_early) 3 = .ok (.iload_n 1, 1) := dt_Law_early_c0 3
theorem d_Law_early_4 : decode (jm_cod M_Law_early) 4 = .ok (.iload_n 2, 1) := dt_Law_early_c0 4
theorem d_Law_early_5 : decode (jm_cod M_Law_early) 5 = .ok (.invokevirtual 27, 3) := dt_Law_early_c0 5
theorem d_Law_early_8 : decode (jm_cod M_Law_early) 8 = .ok (.ifCond .eq 7, 3) := dt_Law_early_c0 6
theorem d_Law_early_11 : decode (jm_cod M_Law_early) 11 = .ok (.lconst 1, 1) := dt_Law_early_c0 7
theorem d_Law_early_12 : decode (jm_cod M_Law_early) 12 = .ok (.goto 4, 3) := dt_Law_early_c0 8
theorem d_Law_early_15 : decode (jm_cod M_Law_early) 15 = .ok (.lconst 0, 1) := dt_Law_early_c0 9
theorem d_Law_early_16 : decode (jm_cod M_Law_early) 16 = .ok (.lastore, 1) := dt_Law_early_c0 10
theorem d_Law_early_17 : decode (jm_cod M_Law_early) 17 = .ok (.goto 7, 3) := dt_Law_early_c0 11
theorem d_Law_early_20 : decode (jm_cod M_Law_early) 20 = .ok (.astore 4, 2) := dt_Law_early_c0 12
theorem d_Law_early_22 : decode (jm_cod M_Law_early) 22 = .ok (.iconst 1, 1) := dt_Law_early_c0 13
theorem d_Law_early_23 : decode (jm_cod M_Law_early) 23 = .ok (.ireturn, 1) := dt_Law_early_c0 14
theorem d_Law_early_24 : decode (jm_cod M_Law_early) 24 = .ok (.iconst 0, 1) := dt_Law_early_c0 15
theorem d_Law_early_25 : decode (jm_cod M_Law_early) 25 = .ok (.ireturn, 1) := dt_Law_early_c0 16
def tab_Law_slave_c0 : List (Nat × Instr × Nat) := [(0, .aload 4, 2), (2, .iconst 0, 1), (3, .aload_n 0, 1), (4, .iload_n 1, 1), (5, .iload_n 2, 1), (6, .iload_n 3, 1), (7, .invokevirtual 31, 3), (10, .i2l, 1), (11, .lastore, 1), (12, .goto 7, 3), (15, .astore 5, 2), (17, .iconst 1, 1), (18, .ireturn, 1), (19, .iconst 0, 1), (20, .ireturn, 1)]
theorem dt_Law_slave_c0 (i : Nat) : decode (jm_cod M_Law_slave) (tab_Law_slave_c0.getD i (0, .aload 4, 2)).1 = .ok ((tab_Law_slave_c0.getD i (0, .aload 4, 2)).2.1, (tab_Law_slave_c0.getD i (0, .aload 4, 2)).2.2) := j_tab (by decide +kernel) i
theorem d_Law_slave_0 : decode (jm_cod M_Law_slave) 0 = .ok (.aload 4, 2) := dt_Law_slave_c0 0
theorem d_Law_slave_2 : decode (jm_cod M_Law_slave) 2 = .ok (.iconst 0, 1) := dt_Law_slave_c0 1
theorem d_Law_slave_3 : decode (jm_cod M_Law_slave) 3 = .ok (.aload_n 0, 1) := dt_Law_slave_c0 2
theorem d_Law_slave_4 : decode (jm_cod M_Law_slave) 4 = .ok (.iload_n 1, 1) := dt_Law_slave_c0 3
theorem d_Law_slave_5 : decode (jm_cod M_Law_slave) 5 = .ok (.iload_n 2, 1) := dt_Law_slave_c0 4
theorem d_Law_slave_6 : decode (jm_cod M_Law_slave) 6 = .ok (.iload_n 3, 1) := dt_Law_slave_c0 5
theorem d_Law_slave_7 : decode (jm_cod M_Law_slave) 7 = .ok (.invokevirtual 31, 3) := dt_Law_slave_c0 6
theorem d_Law_slave_10 : decode (jm_cod M_Law_slave) 10 = .ok (.i2l, 1) := dt_Law_slave_c0 7
theorem d_Law_slave_11 : decode (jm_cod M_Law_slave) 11 = .ok (.lastore, 1) := dt_Law_slave_c0 8
theorem d_Law_slave_12 : decode (jm_cod M_Law_slave) 12 = .ok (.goto 7, 3) := dt_Law_slave_c0 9
theorem d_Law_slave_15 : decode (jm_cod M_Law_slave) 15 = .ok (.astore 5, 2) := dt_Law_slave_c0 10
theorem d_Law_slave_17 : decode (jm_cod M_Law_slave) 17 = .ok (.iconst 1, 1) := dt_Law_slave_c0 11
theorem d_Law_slave_18 : decode (jm_cod M_Law_slave) 18 = .ok (.ireturn, 1) := dt_Law_slave_c0 12
theorem d_Law_slave_19 : decode (jm_cod M_Law_slave) 19 = .ok (.iconst 0, 1) := dt_Law_slave_c0 13
theorem d_Law_slave_20 : decode (jm_cod M_Law_slave) 20 = .ok (.ireturn, 1) := dt_Law_slave_c0 14
def tab_Law_way_c0 : List (Nat × Instr × Nat) := [(0, .aload 4, 2), (2, .iconst 0, 1), (3, .aload_n 0, 1), (4, .iload_n 1, 1), (5, .iload_n 2, 1), (6, .iload_n 3, 1), (7, .invokevirtual 34, 3), (10, .i2l, 1), (11, .lastore, 1), (12, .goto 11, 3), (15, .astore 5, 2), (17, .iconst 1, 1), (18, .ireturn, 1), (19, .astore 5, 2), (21, .iconst 2, 1), (22, .ireturn, 1), (23, .iconst 0, 1), (24, .ireturn, 1)]
theorem dt_Law_way_c0 (i : Nat) : decode (jm_cod M_Law_way) (tab_Law_way_c0.getD i (0, .aload 4, 2)).1 = .ok ((tab_Law_way_c0.getD i (0, .aload 4, 2)).2.1, (tab_Law_way_c0.getD i (0, .aload 4, 2)).2.2) := j_tab (by decide +kernel) i
theorem d_Law_way_0 : decode (jm_cod M_Law_way) 0 = .ok (.aload 4, 2) := dt_Law_way_c0 0
theorem d_Law_way_2 : decode (jm_cod M_Law_way) 2 = .ok (.iconst 0, 1) := dt_Law_way_c0 1
theorem d_Law_way_3 : decode (jm_cod M_Law_way) 3 = .ok (.aload_n 0, 1) := dt_Law_way_c0 2
theorem d_Law_way_4 : decode (jm_cod M_Law_way) 4 = .ok (.iload_n 1, 1) := dt_Law_way_c0 3
theorem d_Law_way_5 : decode (jm_cod M_Law_way) 5 = .ok (.iload_n 2, 1) := dt_Law_way_c0 4
theorem d_Law_way_6 : decode (jm_cod M_Law_way) 6 = .ok (.iload_n 3, 1) := dt_Law_way_c0 5
theorem d_Law_way_7 : decode (jm_cod M_Law_way) 7 = .ok (.invokevirtual 34, 3) := dt_Law_way_c0 6
theorem d_Law_way_10 : decode (jm_cod M_Law_way) 10 = .ok (.i2l, 1) := dt_Law_way_c0 7
theorem d_Law_way_11 : decode (jm_cod M_Law_way) 11 = .ok (.lastore, 1) := dt_Law_way_c0 8
theorem d_Law_way_12 : decode (jm_cod M_Law_way) 12 = .ok (.goto 11, 3) := dt_Law_way_c0 9
theorem d_Law_way_15 : decode (jm_cod M_Law_way) 15 = .ok (.astore 5, 2) := dt_Law_way_c0 10
theorem d_Law_way_17 : decode (jm_cod M_Law_way) 17 = .ok (.iconst 1, 1) := dt_Law_way_c0 11
theorem d_Law_way_18 : decode (jm_cod M_Law_way) 18 = .ok (.ireturn, 1) := dt_Law_way_c0 12
theorem d_Law_way_19 : decode (jm_cod M_Law_way) 19 = .ok (.astore 5, 2) := dt_Law_way_c0 13
theorem d_Law_way_21 : decode (jm_cod M_Law_way) 21 = .ok (.iconst 2, 1) := dt_Law_way_c0 14
theorem d_Law_way_22 : decode (jm_cod M_Law_way) 22 = .ok (.ireturn, 1) := dt_Law_way_c0 15
theorem d_Law_way_23 : decode (jm_cod M_Law_way) 23 = .ok (.iconst 0, 1) := dt_Law_way_c0 16
theorem d_Law_way_24 : decode (jm_cod M_Law_way) 24 = .ok (.ireturn, 1) := dt_Law_way_c0 17
def tab_Law_spoil_c0 : List (Nat × Instr × Nat) := [(0, .aload 4, 2), (2, .iconst 0, 1), (3, .aload_n 0, 1), (4, .iload_n 1, 1), (5, .iload_n 2, 1), (6, .iload_n 3, 1), (7, .invokevirtual 37, 3), (10, .i2l, 1), (11, .lastore, 1), (12, .goto 11, 3), (15, .astore 5, 2), (17, .iconst 1, 1), (18, .ireturn, 1), (19, .astore 5, 2), (21, .iconst 2, 1), (22, .ireturn, 1), (23, .iconst 0, 1), (24, .ireturn, 1)]
theorem dt_Law_spoil_c0 (i : Nat) : decode (jm_cod M_Law_spoil) (tab_Law_spoil_c0.getD i (0, .aload 4, 2)).1 = .ok ((tab_Law_spoil_c0.getD i (0, .aload 4, 2)).2.1, (tab_Law_spoil_c0.getD i (0, .aload 4, 2)).2.2) := j_tab (by decide +kernel) i
theorem d_Law_spoil_0 : decode (jm_cod M_Law_spoil) 0 = .ok (.aload 4, 2) := dt_Law_spoil_c0 0
theorem d_Law_spoil_2 : decode (jm_cod M_Law_spoil) 2 = .ok (.iconst 0, 1) := dt_Law_spoil_c0 1
theorem d_Law_spoil_3 : decode (jm_cod M_Law_spoil) 3 = .ok (.aload_n 0, 1) := dt_Law_spoil_c0 2
theorem d_Law_spoil_4 : decode (jm_cod M_Law_spoil) 4 = .ok (.iload_n 1, 1) := dt_Law_spoil_c0 3
theorem d_Law_spoil_5 : decode (jm_cod M_Law_spoil) 5 = .ok (.iload_n 2, 1) := dt_Law_spoil_c0 4
theorem d_Law_spoil_6 : decode (jm_cod M_Law_spoil) 6 = .ok (.iload_n 3, 1) := dt_Law_spoil_c0 5
theorem d_Law_spoil_7 : decode (jm_cod M_Law_spoil) 7 = .ok (.invokevirtual 37, 3) := dt_Law_spoil_c0 6
theorem d_Law_spoil_10 : decode (jm_cod M_Law_spoil) 10 = .ok (.i2l, 1) := dt_Law_spoil_c0 7
theorem d_Law_spoil_11 : decode (jm_cod M_Law_spoil) 11 = .ok (.lastore, 1) := dt_Law_spoil_c0 8
theorem d_Law_spoil_12 : decode (jm_cod M_Law_spoil) 12 = .ok (.goto 11, 3) := dt_Law_spoil_c0 9
theorem d_Law_spoil_15 : decode (jm_cod M_Law_spoil) 15 = .ok (.astore 5, 2) := dt_Law_spoil_c0 10
theorem d_Law_spoil_17 : decode (jm_cod M_Law_spoil) 17 = .ok (.iconst 1, 1) := dt_Law_spoil_c0 11
theorem d_Law_spoil_18 : decode (jm_cod M_Law_spoil) 18 = .ok (.ireturn, 1) := dt_Law_spoil_c0 12
theorem d_Law_spoil_19 : decode (jm_cod M_Law_spoil) 19 = .ok (.astore 5, 2) := dt_Law_spoil_c0 13
theorem d_Law_spoil_21 : decode (jm_cod M_Law_spoil) 21 = .ok (.iconst 2, 1) := dt_Law_spoil_c0 14
theorem d_Law_spoil_22 : decode (jm_cod M_Law_spoil) 22 = .ok (.ireturn, 1) := dt_Law_spoil_c0 15
theorem d_Law_spoil_23 : decode (jm_cod M_Law_spoil) 23 = .ok (.iconst 0, 1) := dt_Law_spoil_c0 16
theorem d_Law_spoil_24 : decode (jm_cod M_Law_spoil) 24 = .ok (.ireturn, 1) := dt_Law_spoil_c0 17
def tab_Law_poke_c0 : List (Nat × Instr × Nat) := [(0, .aload_n 3, 1), (1, .iconst 0, 1), (2, .aload_n 0, 1), (3, .iload_n 1, 1), (4, .iload_n 2, 1), (5, .invokevirtual 41, 3), (8, .i2l, 1), (9, .lastore, 1), (10, .goto 11, 3), (13, .astore 4, 2), (15, .iconst 1, 1), (16, .ireturn, 1), (17, .astore 4, 2), (19, .iconst 2, 1), (20, .ireturn, 1), (21, .iconst 0, 1), (22, .ireturn, 1)]
theorem dt_Law_poke_c0 (i : Nat) : decode (jm_cod M_Law_poke) (tab_Law_poke_c0.getD i (0, .aload_n 3, 1)).1 = .ok ((tab_Law_poke_c0.getD i (0, .aload_n 3, 1)).2.1, (tab_Law_poke_c0.getD i (0, .aload_n 3, 1)).2.2) := j_tab (by decide +kernel) i
theorem d_Law_poke_0 : decode (jm_cod M_Law_poke) 0 = .ok (.aload_n 3, 1) := dt_Law_poke_c0 0
theorem d_Law_poke_1 : decode (jm_cod M_Law_poke) 1 = .ok (.iconst 0, 1) := dt_Law_poke_c0 1
theorem d_Law_poke_2 : decode (jm_cod M_Law_poke) 2 = .ok (.aload_n 0, 1) := dt_Law_poke_c0 2
theorem d_Law_poke_3 : decode (jm_cod M_Law_poke) 3 = .ok (.iload_n 1, 1) := dt_Law_poke_c0 3
theorem d_Law_poke_4 : decode (jm_cod M_Law_poke) 4 = .ok (.iload_n 2, 1) := dt_Law_poke_c0 4
theorem d_Law_poke_5 : decode (jm_cod M_Law_poke) 5 = .ok (.invokevirtual 41, 3) := dt_Law_poke_c0 5
theorem d_Law_poke_8 : decode (jm_cod M_Law_poke) 8 = .ok (.i2l, 1) := dt_Law_poke_c0 6
theorem d_Law_poke_9 : decode (jm_cod M_Law_poke) 9 = .ok (.lastore, 1) := dt_Law_poke_c0 7
theorem d_Law_poke_10 : decode (jm_cod M_Law_poke) 10 = .ok (.goto 11, 3) := dt_Law_poke_c0 8
theorem d_Law_poke_13 : decode (jm_cod M_Law_poke) 13 = .ok (.astore 4, 2) := dt_Law_poke_c0 9
theorem d_Law_poke_15 : decode (jm_cod M_Law_poke) 15 = .ok (.iconst 1, 1) := dt_Law_poke_c0 10
theorem d_Law_poke_16 : decode (jm_cod M_Law_poke) 16 = .ok (.ireturn, 1) := dt_Law_poke_c0 11
theorem d_Law_poke_17 : decode (jm_cod M_Law_poke) 17 = .ok (.astore 4, 2) := dt_Law_poke_c0 12
theorem d_Law_poke_19 : decode (jm_cod M_Law_poke) 19 = .ok (.iconst 2, 1) := dt_Law_poke_c0 13
theorem d_Law_poke_20 : decode (jm_cod M_Law_poke) 20 = .ok (.ireturn, 1) := dt_Law_poke_c0 14
theorem d_Law_poke_21 : decode (jm_cod M_Law_poke) 21 = .ok (.iconst 0, 1) := dt_Law_poke_c0 15
theorem d_Law_poke_22 : decode (jm_cod M_Law_poke) 22 = .ok (.ireturn, 1) := dt_Law_poke_c0 16
def tab_Law_peek_c0 : List (Nat × Instr × Nat) := [(0, .aload_n 2, 1), (1, .iconst 0, 1), (2, .aload_n 0, 1), (3, .iload_n 1, 1), (4, .invokevirtual 44, 3), (7, .i2l, 1), (8, .lastore, 1), (9, .goto 6, 3), (12, .astore_n 3, 1), (13, .iconst 1, 1), (14, .ireturn, 1), (15, .iconst 0, 1), (16, .ireturn, 1)]
theorem dt_Law_peek_c0 (i : Nat) : decode (jm_cod M_Law_peek) (tab_Law_peek_c0.getD i (0, .aload_n 2, 1)).1 = .ok ((tab_Law_peek_c0.getD i (0, .aload_n 2, 1)).2.1, (tab_Law_peek_c0.getD i (0, .aload_n 2, 1)).2.2) := j_tab (by decide +kernel) i
theorem d_Law_peek_0 : decode (jm_cod M_Law_peek) 0 = .ok (.aload_n 2, 1) := dt_Law_peek_c0 0
theorem d_Law_peek_1 : decode (jm_cod M_Law_peek) 1 = .ok (.iconst 0, 1) := dt_Law_peek_c0 1
theorem d_Law_peek_2 : decode (jm_cod M_Law_peek) 2 = .ok (.aload_n 0, 1) := dt_Law_peek_c0 2
theorem d_Law_peek_3 : decode (jm_cod M_Law_peek) 3 = .ok (.iload_n 1, 1) := dt_Law_peek_c0 3
theorem d_Law_peek_4 : decode (jm_cod M_Law_peek) 4 = .ok (.invokevirtual 44, 3) := dt_Law_peek_c0 4
theorem d_Law_peek_7 : decode (jm_cod M_Law_peek) 7 = .ok (.i2l, 1) := dt_Law_peek_c0 5
theorem d_Law_peek_8 : decode (jm_cod M_Law_peek) 8 = .ok (.lastore, 1) := dt_Law_peek_c0 6
theorem d_Law_peek_9 : decode (jm_cod M_Law_peek) 9 = .ok (.goto 6, 3) := dt_Law_peek_c0 7
theorem d_Law_peek_12 : decode (jm_cod M_Law_peek) 12 = .ok (.astore_n 3, 1) := dt_Law_peek_c0 8
theorem d_Law_peek_13 : decode (jm_cod M_Law_peek) 13 = .ok (.iconst 1, 1) := dt_Law_peek_c0 9
theorem d_Law_peek_14 : decode (jm_cod M_Law_peek) 14 = .ok (.ireturn, 1) := dt_Law_peek_c0 10
theorem d_Law_peek_15 : decode (jm_cod M_Law_peek) 15 = .ok (.iconst 0, 1) := dt_Law_peek_c0 11
theorem d_Law_peek_16 : decode (jm_cod M_Law_peek) 16 = .ok (.ireturn, 1) := dt_Law_peek_c0 12
def tab_Law_request_c0 : List (Nat × Instr × Nat) := [(0, .aload 7, 2), (2, .iconst 0, 1), (3, .aload_n 0, 1), (4, .iload_n 1, 1), (5, .iload_n 2, 1), (6, .iload_n 3, 1), (7, .iload 4, 2), (9, .lload 5, 2), (11, .invokevirtual 48, 3), (14, .i2l, 1), (15, .lastore, 1), (16, .goto 15, 3), (19, .astore 8, 2), (21, .iconst 1, 1), (22, .ireturn, 1), (23, .astore 8, 2), (25, .iconst 2, 1), (26, .ireturn, 1), (27, .astore 8, 2), (29, .iconst 3, 1), (30, .ireturn, 1), (31, .iconst 0, 1), (32, .ireturn, 1)]
theorem dt_Law_request_c0 (i : Nat) : decode (jm_cod M_Law_request) (tab_Law_request_c0.getD i (0, .aload 7, 2)).1 = .ok ((tab_Law_request_c0.getD i (0, .aload 7, 2)).2.1, (tab_Law_request_c0.getD i (0, .aload 7, 2)).2.2) := j_tab (by decide +kernel) i
theorem d_Law_request_0 : decode (jm_cod M_Law_request) 0 = .ok (.aload 7, 2) := dt_Law_request_c0 0
theorem d_Law_request_2 : decode (jm_cod M_Law_request) 2 = .ok (.iconst 0, 1) := dt_Law_request_c0 1
theorem d_Law_request_3 : decode (jm_cod M_Law_request) 3 = .ok (.aload_n 0, 1) := dt_Law_request_c0 2
theorem d_Law_request_4 : decode (jm_cod M_Law_request) 4 = .ok (.iload_n 1, 1) := dt_Law_request_c0 3
theorem d_Law_request_5 : decode (jm_cod M_Law_request) 5 = .ok (.iload_n 2, 1) := dt_Law_request_c0 4
theorem d_Law_request_6 : decode (jm_cod M_Law_request) 6 = .ok (.iload_n 3, 1) := dt_Law_request_c0 5
theorem d_Law_request_7 : decode (jm_cod M_Law_request) 7 = .ok (.iload 4, 2) := dt_Law_request_c0 6
theorem d_Law_request_9 : decode (jm_cod M_Law_request) 9 = .ok (.lload 5, 2) := dt_Law_request_c0 7
theorem d_Law_request_11 : decode (jm_cod M_Law_request) 11 = .ok (.invokevirtual 48, 3) := dt_Law_request_c0 8
theorem d_Law_request_14 : decode (jm_cod M_Law_request) 14 = .ok (.i2l, 1) := dt_Law_request_c0 9
theorem d_Law_request_15 : decode (jm_cod M_Law_request) 15 = .ok (.lastore, 1) := dt_Law_request_c0 10
theorem d_Law_request_16 : decode (jm_cod M_Law_request) 16 = .ok (.goto 15, 3) := dt_Law_request_c0 11
theorem d_Law_request_19 : decode (jm_cod M_Law_request) 19 = .ok (.astore 8, 2) := dt_Law_request_c0 12
theorem d_Law_request_21 : decode (jm_cod M_Law_request) 21 = .ok (.iconst 1, 1) := dt_Law_request_c0 13
theorem d_Law_request_22 : decode (jm_cod M_Law_request) 22 = .ok (.ireturn, 1) := dt_Law_request_c0 14
theorem d_Law_request_23 : decode (jm_cod M_Law_request) 23 = .ok (.astore 8, 2) := dt_Law_request_c0 15
theorem d_Law_request_25 : decode (jm_cod M_Law_request) 25 = .ok (.iconst 2, 1) := dt_Law_request_c0 16
theorem d_Law_request_26 : decode (jm_cod M_Law_request) 26 = .ok (.ireturn, 1) := dt_Law_request_c0 17
theorem d_Law_request_27 : decode (jm_cod M_Law_request) 27 = .ok (.astore 8, 2) := dt_Law_request_c0 18
theorem d_Law_request_29 : decode (jm_cod M_Law_request) 29 = .ok (.iconst 3, 1) := dt_Law_request_c0 19
theorem d_Law_request_30 : decode (jm_cod M_Law_request) 30 = .ok (.ireturn, 1) := dt_Law_request_c0 20
theorem d_Law_request_31 : decode (jm_cod M_Law_request) 31 = .ok (.iconst 0, 1) := dt_Law_request_c0 21
theorem d_Law_request_32 : decode (jm_cod M_Law_request) 32 = .ok (.ireturn, 1) := dt_Law_request_c0 22
def tab_Law_tick_c0 : List (Nat × Instr × Nat) := [(0, .aload_n 2, 1), (1, .iconst 0, 1), (2, .aload_n 0, 1), (3, .iload_n 1, 1), (4, .invokevirtual 54, 3), (7, .i2l, 1), (8, .lastore, 1), (9, .goto 6, 3), (12, .astore_n 3, 1), (13, .iconst 1, 1), (14, .ireturn, 1), (15, .iconst 0, 1), (16, .ireturn, 1)]
theorem dt_Law_tick_c0 (i : Nat) : decode (jm_cod M_Law_tick) (tab_Law_tick_c0.getD i (0, .aload_n 2, 1)).1 = .ok ((tab_Law_tick_c0.getD i (0, .aload_n 2, 1)).2.1, (tab_Law_tick_c0.getD i (0, .aload_n 2, 1)).2.2) := j_tab (by decide +kernel) i
theorem d_Law_tick_0 : decode (jm_cod M_Law_tick) 0 = .ok (.aload_n 2, 1) := dt_Law_tick_c0 0
theorem d_Law_tick_1 : decode (jm_cod M_Law_tick) 1 = .ok (.iconst 0, 1) := dt_Law_tick_c0 1
theorem d_Law_tick_2 : decode (jm_cod M_Law_tick) 2 = .ok (.aload_n 0, 1) := dt_Law_tick_c0 2
theorem d_Law_tick_3 : decode (jm_cod M_Law_tick) 3 = .ok (.iload_n 1, 1) := dt_Law_tick_c0 3
theorem d_Law_tick_4 : decode (jm_cod M_Law_tick) 4 = .ok (.invokevirtual 54, 3) := dt_Law_tick_c0 4
theorem d_Law_tick_7 : decode (jm_cod M_Law_tick) 7 = .ok (.i2l, 1) := dt_Law_tick_c0 5
theorem d_Law_tick_8 : decode (jm_cod M_Law_tick) 8 = .ok (.lastore, 1) := dt_Law_tick_c0 6
theorem d_Law_tick_9 : decode (jm_cod M_Law_tick) 9 = .ok (.goto 6, 3) := dt_Law_tick_c0 7
theorem d_Law_tick_12 : decode (jm_cod M_Law_tick) 12 = .ok (.astore_n 3, 1) := dt_Law_tick_c0 8
theorem d_Law_tick_13 : decode (jm_cod M_Law_tick) 13 = .ok (.iconst 1, 1) := dt_Law_tick_c0 9
theorem d_Law_tick_14 : decode (jm_cod M_Law_tick) 14 = .ok (.ireturn, 1) := dt_Law_tick_c0 10
theorem d_Law_tick_15 : decode (jm_cod M_Law_tick) 15 = .ok (.iconst 0, 1) := dt_Law_tick_c0 11
theorem d_Law_tick_16 : decode (jm_cod M_Law_tick) 16 = .ok (.ireturn, 1) := dt_Law_tick_c0 12
def tab_Law_drain_c0 : List (Nat × Instr × Nat) := [(0, .aload_n 2, 1), (1, .iconst 0, 1), (2, .aload_n 0, 1), (3, .iload_n 1, 1), (4, .invokevirtual 57, 3), (7, .i2l, 1), (8, .lastore, 1), (9, .goto 6, 3), (12, .astore_n 3, 1), (13, .iconst 1, 1), (14, .ireturn, 1), (15, .iconst 0, 1), (16, .ireturn, 1)]
theorem dt_Law_drain_c0 (i : Nat) : decode (jm_cod M_Law_drain) (tab_Law_drain_c0.getD i (0, .aload_n 2, 1)).1 = .ok ((tab_Law_drain_c0.getD i (0, .aload_n 2, 1)).2.1, (tab_Law_drain_c0.getD i (0, .aload_n 2, 1)).2.2) := j_tab (by decide +kernel) i
theorem d_Law_drain_0 : decode (jm_cod M_Law_drain) 0 = .ok (.aload_n 2, 1) := dt_Law_drain_c0 0
theorem d_Law_drain_1 : decode (jm_cod M_Law_drain) 1 = .ok (.iconst 0, 1) := dt_Law_drain_c0 1
theorem d_Law_drain_2 : decode (jm_cod M_Law_drain) 2 = .ok (.aload_n 0, 1) := dt_Law_drain_c0 2
theorem d_Law_drain_3 : decode (jm_cod M_Law_drain) 3 = .ok (.iload_n 1, 1) := dt_Law_drain_c0 3
theorem d_Law_drain_4 : decode (jm_cod M_Law_drain) 4 = .ok (.invokevirtual 57, 3) := dt_Law_drain_c0 4
theorem d_Law_drain_7 : decode (jm_cod M_Law_drain) 7 = .ok (.i2l, 1) := dt_Law_drain_c0 5
theorem d_Law_drain_8 : decode (jm_cod M_Law_drain) 8 = .ok (.lastore, 1) := dt_Law_drain_c0 6
theorem d_Law_drain_9 : decode (jm_cod M_Law_drain) 9 = .ok (.goto 6, 3) := dt_Law_drain_c0 7
theorem d_Law_drain_12 : decode (jm_cod M_Law_drain) 12 = .ok (.astore_n 3, 1) := dt_Law_drain_c0 8
theorem d_Law_drain_13 : decode (jm_cod M_Law_drain) 13 = .ok (.iconst 1, 1) := dt_Law_drain_c0 9
theorem d_Law_drain_14 : decode (jm_cod M_Law_drain) 14 = .ok (.ireturn, 1) := dt_Law_drain_c0 10
theorem d_Law_drain_15 : decode (jm_cod M_Law_drain) 15 = .ok (.iconst 0, 1) := dt_Law_drain_c0 11
theorem d_Law_drain_16 : decode (jm_cod M_Law_drain) 16 = .ok (.ireturn, 1) := dt_Law_drain_c0 12
def tab_Law_ticket_c0 : List (Nat × Instr × Nat) := [(0, .aload_n 3, 1), (1, .iconst 0, 1), (2, .aload_n 0, 1), (3, .iload_n 1, 1), (4, .iload_n 2, 1), (5, .invokevirtual 60, 3), (8, .i2l, 1), (9, .lastore, 1), (10, .goto 11, 3), (13, .astore 4, 2), (15, .iconst 1, 1), (16, .ireturn, 1), (17, .astore 4, 2), (19, .iconst 2, 1), (20, .ireturn, 1), (21, .iconst 0, 1), (22, .ireturn, 1)]
theorem dt_Law_ticket_c0 (i : Nat) : decode (jm_cod M_Law_ticket) (tab_Law_ticket_c0.getD i (0, .aload_n 3, 1)).1 = .ok ((tab_Law_ticket_c0.getD i (0, .aload_n 3, 1)).2.1, (tab_Law_ticket_c0.getD i (0, .aload_n 3, 1)).2.2) := j_tab (by decide +kernel) i
theorem d_Law_ticket_0 : decode (jm_cod M_Law_ticket) 0 = .ok (.aload_n 3, 1) := dt_Law_ticket_c0 0
theorem d_Law_ticket_1 : decode (jm_cod M_Law_ticket) 1 = .ok (.iconst 0, 1) := dt_Law_ticket_c0 1
theorem d_Law_ticket_2 : decode (jm_cod M_Law_ticket) 2 = .ok (.aload_n 0, 1) := dt_Law_ticket_c0 2
theorem d_Law_ticket_3 : decode (jm_cod M_Law_ticket) 3 = .ok (.iload_n 1, 1) := dt_Law_ticket_c0 3
theorem d_Law_ticket_4 : decode (jm_cod M_Law_ticket) 4 = .ok (.iload_n 2, 1) := dt_Law_ticket_c0 4
theorem d_Law_ticket_5 : decode (jm_cod M_Law_ticket) 5 = .ok (.invokevirtual 60, 3) := dt_Law_ticket_c0 5
theorem d_Law_ticket_8 : decode (jm_cod M_Law_ticket) 8 = .ok (.i2l, 1) := dt_Law_ticket_c0 6
theorem d_Law_ticket_9 : decode (jm_cod M_Law_ticket) 9 = .ok (.lastore, 1) := dt_Law_ticket_c0 7
theorem d_Law_ticket_10 : decode (jm_cod M_Law_ticket) 10 = .ok (.goto 11, 3) := dt_Law_ticket_c0 8
theorem d_Law_ticket_13 : decode (jm_cod M_Law_ticket) 13 = .ok (.astore 4, 2) := dt_Law_ticket_c0 9
theorem d_Law_ticket_15 : decode (jm_cod M_Law_ticket) 15 = .ok (.iconst 1, 1) := dt_Law_ticket_c0 10
theorem d_Law_ticket_16 : decode (jm_cod M_Law_ticket) 16 = .ok (.ireturn, 1) := dt_Law_ticket_c0 11
theorem d_Law_ticket_17 : decode (jm_cod M_Law_ticket) 17 = .ok (.astore 4, 2) := dt_Law_ticket_c0 12
theorem d_Law_ticket_19 : decode (jm_cod M_Law_ticket) 19 = .ok (.iconst 2, 1) := dt_Law_ticket_c0 13
theorem d_Law_ticket_20 : decode (jm_cod M_Law_ticket) 20 = .ok (.ireturn, 1) := dt_Law_ticket_c0 14
theorem d_Law_ticket_21 : decode (jm_cod M_Law_ticket) 21 = .ok (.iconst 0, 1) := dt_Law_ticket_c0 15
theorem d_Law_ticket_22 : decode (jm_cod M_Law_ticket) 22 = .ok (.ireturn, 1) := dt_Law_ticket_c0 16
def tab_Law_data_c0 : List (Nat × Instr × Nat) := [(0, .aload_n 3, 1), (1, .iconst 0, 1), (2, .aload_n 0, 1), (3, .iload_n 1, 1), (4, .iload_n 2, 1), (5, .invokevirtual 63, 3), (8, .lastore, 1), (9, .goto 7, 3), (12, .astore 4, 2), (14, .iconst 1, 1), (15, .ireturn, 1), (16, .iconst 0, 1), (17, .ireturn, 1)]
theorem dt_Law_data_c0 (i : Nat) : decode (jm_cod M_Law_data) (tab_Law_data_c0.getD i (0, .aload_n 3, 1)).1 = .ok ((tab_Law_data_c0.getD i (0, .aload_n 3, 1)).2.1, (tab_Law_data_c0.getD i (0, .aload_n 3, 1)).2.2) := j_tab (by decide +kernel) i
theorem d_Law_data_0 : decode (jm_cod M_Law_data) 0 = .ok (.aload_n 3, 1) := dt_Law_data_c0 0
theorem d_Law_data_1 : decode (jm_cod M_Law_data) 1 = .ok (.iconst 0, 1) := dt_Law_data_c0 1
theorem d_Law_data_2 : decode (jm_cod M_Law_data) 2 = .ok (.aload_n 0, 1) := dt_Law_data_c0 2
theorem d_Law_data_3 : decode (jm_cod M_Law_data) 3 = .ok (.iload_n 1, 1) := dt_Law_data_c0 3
theorem d_Law_data_4 : decode (jm_cod M_Law_data) 4 = .ok (.iload_n 2, 1) := dt_Law_data_c0 4
theorem d_Law_data_5 : decode (jm_cod M_Law_data) 5 = .ok (.invokevirtual 63, 3) := dt_Law_data_c0 5
theorem d_Law_data_8 : decode (jm_cod M_Law_data) 8 = .ok (.lastore, 1) := dt_Law_data_c0 6
theorem d_Law_data_9 : decode (jm_cod M_Law_data) 9 = .ok (.goto 7, 3) := dt_Law_data_c0 7
theorem d_Law_data_12 : decode (jm_cod M_Law_data) 12 = .ok (.astore 4, 2) := dt_Law_data_c0 8
theorem d_Law_data_14 : decode (jm_cod M_Law_data) 14 = .ok (.iconst 1, 1) := dt_Law_data_c0 9
theorem d_Law_data_15 : decode (jm_cod M_Law_data) 15 = .ok (.ireturn, 1) := dt_Law_data_c0 10
theorem d_Law_data_16 : decode (jm_cod M_Law_data) 16 = .ok (.iconst 0, 1) := dt_Law_data_c0 11
theorem d_Law_data_17 : decode (jm_cod M_Law_data) 17 = .ok (.ireturn, 1) := dt_Law_data_c0 12
def tab_Law_forget_c0 : List (Nat × Instr × Nat) := [(0, .aload_n 1, 1), (1, .iconst 0, 1), (2, .aload_n 0, 1), (3, .invokevirtual 67, 3), (6, .i2l, 1), (7, .lastore, 1), (8, .goto 6, 3), (11, .astore_n 2, 1), (12, .iconst 1, 1), (13, .ireturn, 1), (14, .iconst 0, 1), (15, .ireturn, 1)]
theorem dt_Law_forget_c0 (i : Nat) : decode (jm_cod M_Law_forget) (tab_Law_forget_c0.getD i (0, .aload_n 1, 1)).1 = .ok ((tab_Law_forget_c0.getD i (0, .aload_n 1, 1)).2.1, (tab_Law_forget_c0.getD i (0, .aload_n 1, 1)).2.2) := j_tab (by decide +kernel) i
theorem d_Law_forget_0 : decode (jm_cod M_Law_forget) 0 = .ok (.aload_n 1, 1) := dt_Law_forget_c0 0
theorem d_Law_forget_1 : decode (jm_cod M_Law_forget) 1 = .ok (.iconst 0, 1) := dt_Law_forget_c0 1
theorem d_Law_forget_2 : decode (jm_cod M_Law_forget) 2 = .ok (.aload_n 0, 1) := dt_Law_forget_c0 2
theorem d_Law_forget_3 : decode (jm_cod M_Law_forget) 3 = .ok (.invokevirtual 67, 3) := dt_Law_forget_c0 3
theorem d_Law_forget_6 : decode (jm_cod M_Law_forget) 6 = .ok (.i2l, 1) := dt_Law_forget_c0 4
theorem d_Law_forget_7 : decode (jm_cod M_Law_forget) 7 = .ok (.lastore, 1) := dt_Law_forget_c0 5
theorem d_Law_forget_8 : decode (jm_cod M_Law_forget) 8 = .ok (.goto 6, 3) := dt_Law_forget_c0 6
theorem d_Law_forget_11 : decode (jm_cod M_Law_forget) 11 = .ok (.astore_n 2, 1) := dt_Law_forget_c0 7
theorem d_Law_forget_12 : decode (jm_cod M_Law_forget) 12 = .ok (.iconst 1, 1) := dt_Law_forget_c0 8
theorem d_Law_forget_13 : decode (jm_cod M_Law_forget) 13 = .ok (.ireturn, 1) := dt_Law_forget_c0 9
theorem d_Law_forget_14 : decode (jm_cod M_Law_forget) 14 = .ok (.iconst 0, 1) := dt_Law_forget_c0 10
theorem d_Law_forget_15 : decode (jm_cod M_Law_forget) 15 = .ok (.ireturn, 1) := dt_Law_forget_c0 11
def tab_Law_wire_c0 : List (Nat × Instr × Nat) := [(0, .aload 5, 2), (2, .iconst 0, 1), (3, .aload_n 0, 1), (4, .iload_n 1, 1), (5, .iload_n 2, 1), (6, .iload_n 3, 1), (7, .iload 4, 2), (9, .invokevirtual 71, 3), (12, .i2l, 1), (13, .lastore, 1), (14, .goto 11, 3), (17, .astore 6, 2), (19, .iconst 1, 1), (20, .ireturn, 1), (21, .astore 6, 2), (23, .iconst 2, 1), (24, .ireturn, 1), (25, .iconst 0, 1), (26, .ireturn, 1)]
theorem dt_Law_wire_c0 (i : Nat) : decode (jm_cod M_Law_wire) (tab_Law_wire_c0.getD i (0, .aload 5, 2)).1 = .ok ((tab_Law_wire_c0.getD i (0, .aload 5, 2)).2.1, (tab_Law_wire_c0.getD i (0, .aload 5, 2)).2.2) := j_tab (by decide +kernel) i
theorem d_Law_wire_0 : decode (jm_cod M_Law_wire) 0 = .ok (.aload 5, 2) := dt_Law_wire_c0 0
theorem d_Law_wire_2 : decode (jm_cod M_Law_wire) 2 = .ok (.iconst 0, 1) := dt_Law_wire_c0 1
theorem d_Law_wire_3 : decode (jm_cod M_Law_wire) 3 = .ok (.aload_n 0, 1) := dt_Law_wire_c0 2
theorem d_Law_wire_4 : decode (jm_cod M_Law_wire) 4 = .ok (.iload_n 1, 1) := dt_Law_wire_c0 3
theorem d_Law_wire_5 : decode (jm_cod M_Law_wire) 5 = .ok (.iload_n 2, 1) := dt_Law_wire_c0 4
theorem d_Law_wire_6 : decode (jm_cod M_Law_wire) 6 = .ok (.iload_n 3, 1) := dt_Law_wire_c0 5
theorem d_Law_wire_7 : decode (jm_cod M_Law_wire) 7 = .ok (.iload 4, 2) := dt_Law_wire_c0 6
theorem d_Law_wire_9 : decode (jm_cod M_Law_wire) 9 = .ok (.invokevirtual 71, 3) := dt_Law_wire_c0 7
theorem d_Law_wire_12 : decode (jm_cod M_Law_wire) 12 = .ok (.i2l, 1) := dt_Law_wire_c0 8
theorem d_Law_wire_13 : decode (jm_cod M_Law_wire) 13 = .ok (.lastore, 1) := dt_Law_wire_c0 9
theorem d_Law_wire_14 : decode (jm_cod M_Law_wire) 14 = .ok (.goto 11, 3) := dt_Law_wire_c0 10
theorem d_Law_wire_17 : decode (jm_cod M_Law_wire) 17 = .ok (.astore 6, 2) := dt_Law_wire_c0 11
theorem d_Law_wire_19 : decode (jm_cod M_Law_wire) 19 = .ok (.iconst 1, 1) := dt_Law_wire_c0 12
theorem d_Law_wire_20 : decode (jm_cod M_Law_wire) 20 = .ok (.ireturn, 1) := dt_Law_wire_c0 13
theorem d_Law_wire_21 : decode (jm_cod M_Law_wire) 21 = .ok (.astore 6, 2) := dt_Law_wire_c0 14
theorem d_Law_wire_23 : decode (jm_cod M_Law_wire) 23 = .ok (.iconst 2, 1) := dt_Law_wire_c0 15
theorem d_Law_wire_24 : decode (jm_cod M_Law_wire) 24 = .ok (.ireturn, 1) := dt_Law_wire_c0 16
theorem d_Law_wire_25 : decode (jm_cod M_Law_wire) 25 = .ok (.iconst 0, 1) := dt_Law_wire_c0 17
theorem d_Law_wire_26 : decode (jm_cod M_Law_wire) 26 = .ok (.ireturn, 1) := dt_Law_wire_c0 18
def tab_Law_content_c0 : List (Nat × Instr × Nat) := [(0, .aload 4, 2), (2, .iconst 0, 1), (3, .aload_n 0, 1), (4, .iload_n 1, 1), (5, .iload_n 2, 1), (6, .iload_n 3, 1), (7, .invokevirtual 75, 3), (10, .lastore, 1), (11, .goto 7, 3), (14, .astore 5, 2), (16, .iconst 1, 1), (17, .ireturn, 1), (18, .iconst 0, 1), (19, .ireturn, 1)]
theorem dt_Law_content_c0 (i : Nat) : decode (jm_cod M_Law_content) (tab_Law_content_c0.getD i (0, .aload 4, 2)).1 = .ok ((tab_Law_content_c0.getD i (0, .aload 4, 2)).2.1, (tab_Law_content_c0.getD i (0, .aload 4, 2)).2.2) := j_tab (by decide +kernel) i
theorem d_Law_content_0 : decode (jm_cod M_Law_content) 0 = .ok (.aload 4, 2) := dt_Law_content_c0 0
theorem d_Law_content_2 : decode (jm_cod M_Law_content) 2 = .ok (.iconst 0, 1) := dt_Law_content_c0 1
theorem d_Law_content_3 : decode (jm_cod M_Law_content) 3 = .ok (.aload_n 0, 1) := dt_Law_content_c0 2
theorem d_Law_content_4 : decode (jm_cod M_Law_content) 4 = .ok (.iload_n 1, 1) := dt_Law_content_c0 3
theorem d_Law_content_5 : decode (jm_cod M_Law_content) 5 = .ok (.iload_n 2, 1) := dt_Law_content_c0 4
theorem d_Law_content_6 : decode (jm_cod M_Law_content) 6 = .ok (.iload_n 3, 1) := dt_Law_content_c0 5
theorem d_Law_content_7 : decode (jm_cod M_Law_content) 7 = .ok (.invokevirtual 75, 3) := dt_Law_content_c0 6
theorem d_Law_content_10 : decode (jm_cod M_Law_content) 10 = .ok (.lastore, 1) := dt_Law_content_c0 7
theorem d_Law_content_11 : decode (jm_cod M_Law_content) 11 = .ok (.goto 7, 3) := dt_Law_content_c0 8
theorem d_Law_content_14 : decode (jm_cod M_Law_content) 14 = .ok (.astore 5, 2) := dt_Law_content_c0 9
theorem d_Law_content_16 : decode (jm_cod M_Law_content) 16 = .ok (.iconst 1, 1) := dt_Law_content_c0 10
theorem d_Law_content_17 : decode (jm_cod M_Law_content) 17 = .ok (.ireturn, 1) := dt_Law_content_c0 11
theorem d_Law_content_18 : decode (jm_cod M_Law_content) 18 = .ok (.iconst 0, 1) := dt_Law_content_c0 12
theorem d_Law_content_19 : decode (jm_cod M_Law_content) 19 = .ok (.ireturn, 1) := dt_Law_content_c0 13
def tab_Law_port_c0 : List (Nat × Instr × Nat) := [(0, .aload 4, 2), (2, .iconst 0, 1), (3, .aload_n 0, 1), (4, .iload_n 1, 1), (5, .iload_n 2, 1), (6, .iload_n 3, 1), (7, .invokevirtual 79, 3), (10, .i2l, 1), (11, .lastore, 1), (12, .goto 11, 3), (15, .astore 5, 2), (17, .iconst 1, 1), (18, .ireturn, 1), (19, .astore 5, 2), (21, .iconst 2, 1), (22, .ireturn, 1), (23, .iconst 0, 1), (24, .ireturn, 1)]
theorem dt_Law_port_c0 (i : Nat) : decode (jm_cod M_Law_port) (tab_Law_port_c0.getD i (0, .aload 4, 2)).1 = .ok ((tab_Law_port_c0.getD i (0, .aload 4, 2)).2.1, (tab_Law_port_c0.getD i (0, .aload 4, 2)).2.2) := j_tab (by decide +kernel) i
theorem d_Law_port_0 : decode (jm_cod M_Law_port) 0 = .ok (.aload 4, 2) := dt_Law_port_c0 0
theorem d_Law_port_2 : decode (jm_cod M_Law_port) 2 = .ok (.iconst 0, 1) := dt_Law_port_c0 1
theorem d_Law_port_3 : decode (jm_cod M_Law_port) 3 = .ok (.aload_n 0, 1) := dt_Law_port_c0 2
theorem d_Law_port_4 : decode (jm_cod M_Law_port) 4 = .ok (.iload_n 1, 1) := dt_Law_port_c0 3
theorem d_Law_port_5 : decode (jm_cod M_Law_port) 5 = .ok (.iload_n 2, 1) := dt_Law_port_c0 4
theorem d_Law_port_6 : decode (jm_cod M_Law_port) 6 = .ok (.iload_n 3, 1) := dt_Law_port_c0 5
theorem d_Law_port_7 : decode (jm_cod M_Law_port) 7 = .ok (.invokevirtual 79, 3) := dt_Law_port_c0 6
theorem d_Law_port_10 : decode (jm_cod M_Law_port) 10 = .ok (.i2l, 1) := dt_Law_port_c0 7
theorem d_Law_port_11 : decode (jm_cod M_Law_port) 11 = .ok (.lastore, 1) := dt_Law_port_c0 8
theorem d_Law_port_12 : decode (jm_cod M_Law_port) 12 = .ok (.goto 11, 3) := dt_Law_port_c0 9
theorem d_Law_port_15 : decode (jm_cod M_Law_port) 15 = .ok (.astore 5, 2) := dt_Law_port_c0 10
theorem d_Law_port_17 : decode (jm_cod M_Law_port) 17 = .ok (.iconst 1, 1) := dt_Law_port_c0 11
theorem d_Law_port_18 : decode (jm_cod M_Law_port) 18 = .ok (.ireturn, 1) := dt_Law_port_c0 12
theorem d_Law_port_19 : decode (jm_cod M_Law_port) 19 = .ok (.astore 5, 2) := dt_Law_port_c0 13
theorem d_Law_port_21 : decode (jm_cod M_Law_port) 21 = .ok (.iconst 2, 1) := dt_Law_port_c0 14
theorem d_Law_port_22 : decode (jm_cod M_Law_port) 22 = .ok (.ireturn, 1) := dt_Law_port_c0 15
theorem d_Law_port_23 : decode (jm_cod M_Law_port) 23 = .ok (.iconst 0, 1) := dt_Law_port_c0 16
theorem d_Law_port_24 : decode (jm_cod M_Law_port) 24 = .ok (.ireturn, 1) := dt_Law_port_c0 17
def tab_Law_target_c0 : List (Nat × Instr × Nat) := [(0, .aload_n 3, 1), (1, .iconst 0, 1), (2, .aload_n 0, 1), (3, .iload_n 1, 1), (4, .iload_n 2, 1), (5, .invokevirtual 82, 3), (8, .i2l, 1), (9, .lastore, 1), (10, .goto 11, 3), (13, .astore 4, 2), (15, .iconst 1, 1), (16, .ireturn, 1), (17, .astore 4, 2), (19, .iconst 2, 1), (20, .ireturn, 1), (21, .iconst 0, 1), (22, .ireturn, 1)]
theorem dt_Law_target_c0 (i : Nat) : decode (jm_cod M_Law_target) (tab_Law_target_c0.getD i (0, .aload_n 3, 1)).1 = .ok ((tab_Law_target_c0.getD i (0, .aload_n 3, 1)).2.1, (tab_Law_target_c0.getD i (0, .aload_n 3, 1)).2.2) := j_tab (by decide +kernel) i
theorem d_Law_target_0 : decode (jm_cod M_Law_target) 0 = .ok (.aload_n 3, 1) := dt_Law_target_c0 0
theorem d_Law_target_1 : decode (jm_cod M_Law_target) 1 = .ok (.iconst 0, 1) := dt_Law_target_c0 1
theorem d_Law_target_2 : decode (jm_cod M_Law_target) 2 = .ok (.aload_n 0, 1) := dt_Law_target_c0 2
theorem d_Law_target_3 : decode (jm_cod M_Law_target) 3 = .ok (.iload_n 1, 1) := dt_Law_target_c0 3
theorem d_Law_target_4 : decode (jm_cod M_Law_target) 4 = .ok (.iload_n 2, 1) := dt_Law_target_c0 4
theorem d_Law_target_5 : decode (jm_cod M_Law_target) 5 = .ok (.invokevirtual 82, 3) := dt_Law_target_c0 5
theorem d_Law_target_8 : decode (jm_cod M_Law_target) 8 = .ok (.i2l, 1) := dt_Law_target_c0 6
theorem d_Law_target_9 : decode (jm_cod M_Law_target) 9 = .ok (.lastore, 1) := dt_Law_target_c0 7
theorem d_Law_target_10 : decode (jm_cod M_Law_target) 10 = .ok (.goto 11, 3) := dt_Law_target_c0 8
theorem d_Law_target_13 : decode (jm_cod M_Law_target) 13 = .ok (.astore 4, 2) := dt_Law_target_c0 9
theorem d_Law_target_15 : decode (jm_cod M_Law_target) 15 = .ok (.iconst 1, 1) := dt_Law_target_c0 10
theorem d_Law_target_16 : decode (jm_cod M_Law_target) 16 = .ok (.ireturn, 1) := dt_Law_target_c0 11
theorem d_Law_target_17 : decode (jm_cod M_Law_target) 17 = .ok (.astore 4, 2) := dt_Law_target_c0 12
theorem d_Law_target_19 : decode (jm_cod M_Law_target) 19 = .ok (.iconst 2, 1) := dt_Law_target_c0 13
theorem d_Law_target_20 : decode (jm_cod M_Law_target) 20 = .ok (.ireturn, 1) := dt_Law_target_c0 14
theorem d_Law_target_21 : decode (jm_cod M_Law_target) 21 = .ok (.iconst 0, 1) := dt_Law_target_c0 15
theorem d_Law_target_22 : decode (jm_cod M_Law_target) 22 = .ok (.ireturn, 1) := dt_Law_target_c0 16
def tab_Law_right_c0 : List (Nat × Instr × Nat) := [(0, .aload_n 3, 1), (1, .iconst 0, 1), (2, .aload_n 0, 1), (3, .iload_n 1, 1), (4, .iload_n 2, 1), (5, .invokevirtual 85, 3), (8, .i2l, 1), (9, .lastore, 1), (10, .goto 11, 3), (13, .astore 4, 2), (15, .iconst 1, 1), (16, .ireturn, 1), (17, .astore 4, 2), (19, .iconst 2, 1), (20, .ireturn, 1), (21, .iconst 0, 1), (22, .ireturn, 1)]
theorem dt_Law_right_c0 (i : Nat) : decode (jm_cod M_Law_right) (tab_Law_right_c0.getD i (0, .aload_n 3, 1)).1 = .ok ((tab_Law_right_c0.getD i (0, .aload_n 3, 1)).2.1, (tab_Law_right_c0.getD i (0, .aload_n 3, 1)).2.2) := j_tab (by decide +kernel) i
theorem d_Law_right_0 : decode (jm_cod M_Law_right) 0 = .ok (.aload_n 3, 1) := dt_Law_right_c0 0
theorem d_Law_right_1 : decode (jm_cod M_Law_right) 1 = .ok (.iconst 0, 1) := dt_Law_right_c0 1
theorem d_Law_right_2 : decode (jm_cod M_Law_right) 2 = .ok (.aload_n 0, 1) := dt_Law_right_c0 2
theorem d_Law_right_3 : decode (jm_cod M_Law_right) 3 = .ok (.iload_n 1, 1) := dt_Law_right_c0 3
theorem d_Law_right_4 : decode (jm_cod M_Law_right) 4 = .ok (.iload_n 2, 1) := dt_Law_right_c0 4
theorem d_Law_right_5 : decode (jm_cod M_Law_right) 5 = .ok (.invokevirtual 85, 3) := dt_Law_right_c0 5
theorem d_Law_right_8 : decode (jm_cod M_Law_right) 8 = .ok (.i2l, 1) := dt_Law_right_c0 6
theorem d_Law_right_9 : decode (jm_cod M_Law_right) 9 = .ok (.lastore, 1) := dt_Law_right_c0 7
theorem d_Law_right_10 : decode (jm_cod M_Law_right) 10 = .ok (.goto 11, 3) := dt_Law_right_c0 8
theorem d_Law_right_13 : decode (jm_cod M_Law_right) 13 = .ok (.astore 4, 2) := dt_Law_right_c0 9
theorem d_Law_right_15 : decode (jm_cod M_Law_right) 15 = .ok (.iconst 1, 1) := dt_Law_right_c0 10
theorem d_Law_right_16 : decode (jm_cod M_Law_right) 16 = .ok (.ireturn, 1) := dt_Law_right_c0 11
theorem d_Law_right_17 : decode (jm_cod M_Law_right) 17 = .ok (.astore 4, 2) := dt_Law_right_c0 12
theorem d_Law_right_19 : decode (jm_cod M_Law_right) 19 = .ok (.iconst 2, 1) := dt_Law_right_c0 13
theorem d_Law_right_20 : decode (jm_cod M_Law_right) 20 = .ok (.ireturn, 1) := dt_Law_right_c0 14
theorem d_Law_right_21 : decode (jm_cod M_Law_right) 21 = .ok (.iconst 0, 1) := dt_Law_right_c0 15
theorem d_Law_right_22 : decode (jm_cod M_Law_right) 22 = .ok (.ireturn, 1) := dt_Law_right_c0 16
def tab_Law_see_c0 : List (Nat × Instr × Nat) := [(0, .aload_n 0, 1), (1, .iload_n 1, 1), (2, .iload_n 2, 1), (3, .iload_n 3, 1), (4, .lload 4, 2), (6, .iload 6, 2), (8, .invokevirtual 88, 3), (11, .goto 11, 3), (14, .astore 7, 2), (16, .iconst 1, 1), (17, .ireturn, 1), (18, .astore 7, 2), (20, .iconst 2, 1), (21, .ireturn, 1), (22, .iconst 0, 1), (23, .ireturn, 1)]
theorem dt_Law_see_c0 (i : Nat) : decode (jm_cod M_Law_see) (tab_Law_see_c0.getD i (0, .aload_n 0, 1)).1 = .ok ((tab_Law_see_c0.getD i (0, .aload_n 0, 1)).2.1, (tab_Law_see_c0.getD i (0, .aload_n 0, 1)).2.2) := j_tab (by decide +kernel) i
theorem d_Law_see_0 : decode (jm_cod M_Law_see) 0 = .ok (.aload_n 0, 1) := dt_Law_see_c0 0
theorem d_Law_see_1 : decode (jm_cod M_Law_see) 1 = .ok (.iload_n 1, 1) := dt_Law_see_c0 1
theorem d_Law_see_2 : decode (jm_cod M_Law_see) 2 = .ok (.iload_n 2, 1) := dt_Law_see_c0 2
theorem d_Law_see_3 : decode (jm_cod M_Law_see) 3 = .ok (.iload_n 3, 1) := dt_Law_see_c0 3
theorem d_Law_see_4 : decode (jm_cod M_Law_see) 4 = .ok (.lload 4, 2) := dt_Law_see_c0 4
theorem d_Law_see_6 : decode (jm_cod M_Law_see) 6 = .ok (.iload 6, 2) := dt_Law_see_c0 5
theorem d_Law_see_8 : decode (jm_cod M_Law_see) 8 = .ok (.invokevirtual 88, 3) := dt_Law_see_c0 6
theorem d_Law_see_11 : decode (jm_cod M_Law_see) 11 = .ok (.goto 11, 3) := dt_Law_see_c0 7
theorem d_Law_see_14 : decode (jm_cod M_Law_see) 14 = .ok (.astore 7, 2) := dt_Law_see_c0 8
theorem d_Law_see_16 : decode (jm_cod M_Law_see) 16 = .ok (.iconst 1, 1) := dt_Law_see_c0 9
theorem d_Law_see_17 : decode (jm_cod M_Law_see) 17 = .ok (.ireturn, 1) := dt_Law_see_c0 10
theorem d_Law_see_18 : decode (jm_cod M_Law_see) 18 = .ok (.astore 7, 2) := dt_Law_see_c0 11
theorem d_Law_see_20 : decode (jm_cod M_Law_see) 20 = .ok (.iconst 2, 1) := dt_Law_see_c0 12
theorem d_Law_see_21 : decode (jm_cod M_Law_see) 21 = .ok (.ireturn, 1) := dt_Law_see_c0 13
theorem d_Law_see_22 : decode (jm_cod M_Law_see) 22 = .ok (.iconst 0, 1) := dt_Law_see_c0 14
theorem d_Law_see_23 : decode (jm_cod M_Law_see) 23 = .ok (.ireturn, 1) := dt_Law_see_c0 15
def tab_Law_judge_c0 : List (Nat × Instr × Nat) := [(0, .aload_n 2, 1), (1, .iconst 0, 1), (2, .aload_n 0, 1), (3, .iload_n 1, 1), (4, .invokevirtual 92, 3), (7, .i2l, 1), (8, .lastore, 1), (9, .goto 6, 3), (12, .astore_n 3, 1), (13, .iconst 1, 1), (14, .ireturn, 1), (15, .iconst 0, 1), (16, .ireturn, 1)]
theorem dt_Law_judge_c0 (i : Nat) : decode (jm_cod M_Law_judge) (tab_Law_judge_c0.getD i (0, .aload_n 2, 1)).1 = .ok ((tab_Law_judge_c0.getD i (0, .aload_n 2, 1)).2.1, (tab_Law_judge_c0.getD i (0, .aload_n 2, 1)).2.2) := j_tab (by decide +kernel) i
theorem d_Law_judge_0 : decode (jm_cod M_Law_judge) 0 = .ok (.aload_n 2, 1) := dt_Law_judge_c0 0
theorem d_Law_judge_1 : decode (jm_cod M_Law_judge) 1 = .ok (.iconst 0, 1) := dt_Law_judge_c0 1
theorem d_Law_judge_2 : decode (jm_cod M_Law_judge) 2 = .ok (.aload_n 0, 1) := dt_Law_judge_c0 2
theorem d_Law_judge_3 : decode (jm_cod M_Law_judge) 3 = .ok (.iload_n 1, 1) := dt_Law_judge_c0 3
theorem d_Law_judge_4 : decode (jm_cod M_Law_judge) 4 = .ok (.invokevirtual 92, 3) := dt_Law_judge_c0 4
theorem d_Law_judge_7 : decode (jm_cod M_Law_judge) 7 = .ok (.i2l, 1) := dt_Law_judge_c0 5
theorem d_Law_judge_8 : decode (jm_cod M_Law_judge) 8 = .ok (.lastore, 1) := dt_Law_judge_c0 6
theorem d_Law_judge_9 : decode (jm_cod M_Law_judge) 9 = .ok (.goto 6, 3) := dt_Law_judge_c0 7
theorem d_Law_judge_12 : decode (jm_cod M_Law_judge) 12 = .ok (.astore_n 3, 1) := dt_Law_judge_c0 8
theorem d_Law_judge_13 : decode (jm_cod M_Law_judge) 13 = .ok (.iconst 1, 1) := dt_Law_judge_c0 9
theorem d_Law_judge_14 : decode (jm_cod M_Law_judge) 14 = .ok (.ireturn, 1) := dt_Law_judge_c0 10
theorem d_Law_judge_15 : decode (jm_cod M_Law_judge) 15 = .ok (.iconst 0, 1) := dt_Law_judge_c0 11
theorem d_Law_judge_16 : decode (jm_cod M_Law_judge) 16 = .ok (.ireturn, 1) := dt_Law_judge_c0 12
def tab_Law_watched_c0 : List (Nat × Instr × Nat) := [(0, .aload_n 3, 1), (1, .iconst 0, 1), (2, .aload_n 0, 1), (3, .iload_n 1, 1), (4, .iload_n 2, 1), (5, .invokevirtual 95, 3), (8, .i2l, 1), (9, .lastore, 1), (10, .goto 11, 3), (13, .astore 4, 2), (15, .iconst 1, 1), (16, .ireturn, 1), (17, .astore 4, 2), (19, .iconst 2, 1), (20, .ireturn, 1), (21, .iconst 0, 1), (22, .ireturn, 1)]
theorem dt_Law_watched_c0 (i : Nat) : decode (jm_cod M_Law_watched) (tab_Law_watched_c0.getD i (0, .aload_n 3, 1)).1 = .ok ((tab_Law_watched_c0.getD i (0, .aload_n 3, 1)).2.1, (tab_Law_watched_c0.getD i (0, .aload_n 3, 1)).2.2) := j_tab (by decide +kernel) i
theorem d_Law_watched_0 : decode (jm_cod M_Law_watched) 0 = .ok (.aload_n 3, 1) := dt_Law_watched_c0 0
theorem d_Law_watched_1 : decode (jm_cod M_Law_watched) 1 = .ok (.iconst 0, 1) := dt_Law_watched_c0 1
theorem d_Law_watched_2 : decode (jm_cod M_Law_watched) 2 = .ok (.aload_n 0, 1) := dt_Law_watched_c0 2
theorem d_Law_watched_3 : decode (jm_cod M_Law_watched) 3 = .ok (.iload_n 1, 1) := dt_Law_watched_c0 3
theorem d_Law_watched_4 : decode (jm_cod M_Law_watched) 4 = .ok (.iload_n 2, 1) := dt_Law_watched_c0 4
theorem d_Law_watched_5 : decode (jm_cod M_Law_watched) 5 = .ok (.invokevirtual 95, 3) := dt_Law_watched_c0 5
theorem d_Law_watched_8 : decode (jm_cod M_Law_watched) 8 = .ok (.i2l, 1) := dt_Law_watched_c0 6
theorem d_Law_watched_9 : decode (jm_cod M_Law_watched) 9 = .ok (.lastore, 1) := dt_Law_watched_c0 7
theorem d_Law_watched_10 : decode (jm_cod M_Law_watched) 10 = .ok (.goto 11, 3) := dt_Law_watched_c0 8
theorem d_Law_watched_13 : decode (jm_cod M_Law_watched) 13 = .ok (.astore 4, 2) := dt_Law_watched_c0 9
theorem d_Law_watched_15 : decode (jm_cod M_Law_watched) 15 = .ok (.iconst 1, 1) := dt_Law_watched_c0 10
theorem d_Law_watched_16 : decode (jm_cod M_Law_watched) 16 = .ok (.ireturn, 1) := dt_Law_watched_c0 11
theorem d_Law_watched_17 : decode (jm_cod M_Law_watched) 17 = .ok (.astore 4, 2) := dt_Law_watched_c0 12
theorem d_Law_watched_19 : decode (jm_cod M_Law_watched) 19 = .ok (.iconst 2, 1) := dt_Law_watched_c0 13
theorem d_Law_watched_20 : decode (jm_cod M_Law_watched) 20 = .ok (.ireturn, 1) := dt_Law_watched_c0 14
theorem d_Law_watched_21 : decode (jm_cod M_Law_watched) 21 = .ok (.iconst 0, 1) := dt_Law_watched_c0 15
theorem d_Law_watched_22 : decode (jm_cod M_Law_watched) 22 = .ok (.ireturn, 1) := dt_Law_watched_c0 16
def tab_Law_again_c0 : List (Nat × Instr × Nat) := [(0, .aload_n 0, 1), (1, .iload_n 1, 1), (2, .invokevirtual 98, 3), (5, .goto 6, 3), (8, .astore_n 2, 1), (9, .iconst 1, 1), (10, .ireturn, 1), (11, .iconst 0, 1), (12, .ireturn, 1)]
theorem dt_Law_again_c0 (i : Nat) : decode (jm_cod M_Law_again) (tab_Law_again_c0.getD i (0, .aload_n 0, 1)).1 = .ok ((tab_Law_again_c0.getD i (0, .aload_n 0, 1)).2.1, (tab_Law_again_c0.getD i (0, .aload_n 0, 1)).2.2) := j_tab (by decide +kernel) i
theorem d_Law_again_0 : decode (jm_cod M_Law_again) 0 = .ok (.aload_n 0, 1) := dt_Law_again_c0 0
theorem d_Law_again_1 : decode (jm_cod M_Law_again) 1 = .ok (.iload_n 1, 1) := dt_Law_again_c0 1
theorem d_Law_again_2 : decode (jm_cod M_Law_again) 2 = .ok (.invokevirtual 98, 3) := dt_Law_again_c0 2
theorem d_Law_again_5 : decode (jm_cod M_Law_again) 5 = .ok (.goto 6, 3) := dt_Law_again_c0 3
theorem d_Law_again_8 : decode (jm_cod M_Law_again) 8 = .ok (.astore_n 2, 1) := dt_Law_again_c0 4
theorem d_Law_again_9 : decode (jm_cod M_Law_again) 9 = .ok (.iconst 1, 1) := dt_Law_again_c0 5
theorem d_Law_again_10 : decode (jm_cod M_Law_again) 10 = .ok (.ireturn, 1) := dt_Law_again_c0 6
theorem d_Law_again_11 : decode (jm_cod M_Law_again) 11 = .ok (.iconst 0, 1) := dt_Law_again_c0 7
theorem d_Law_again_12 : decode (jm_cod M_Law_again) 12 = .ok (.ireturn, 1) := dt_Law_again_c0 8
def tab_Law_law_c0 : List (Nat × Instr × Nat) := [(0, .new 8, 3), (3, .dup, 1), (4, .aload_n 0, 1), (5, .iconst 0, 1), (6, .invokestatic 102, 3), (9, .aload_n 0, 1), (10, .iconst 1, 1), (11, .invokestatic 102, 3), (14, .aload_n 0, 1), (15, .iconst 2, 1), (16, .invokestatic 102, 3), (19, .invokespecial 108, 3), (22, .astore_n 1, 1), (23, .new 111, 3), (26, .dup, 1), (27, .aload_n 0, 1), (28, .iconst 0, 1), (29, .invokestatic 102, 3), (32, .aload_n 0, 1), (33, .iconst 1, 1), (34, .invokestatic 102, 3), (37, .aload_n 0, 1), (38, .iconst 2, 1), (39, .invokestatic 102, 3)]
theorem dt_Law_law_c0 (i : Nat) : decode (jm_cod M_Law_law) (tab_Law_law_c0.getD i (0, .new 8, 3)).1 = .ok ((tab_Law_law_c0.getD i (0, .new 8, 3)).2.1, (tab_Law_law_c0.getD i (0, .new 8, 3)).2.2) := j_tab (by decide +kernel) i
theorem d_Law_law_0 : decode (jm_cod M_Law_law) 0 = .ok (.new 8, 3) := dt_Law_law_c0 0
theorem d_Law_law_3 : decode (jm_cod M_Law_law) 3 = .ok (.dup, 1) := dt_Law_law_c0 1
theorem d_Law_law_4 : decode (jm_cod M_Law_law) 4 = .ok (.aload_n 0, 1) := dt_Law_law_c0 2
theorem d_Law_law_5 : decode (jm_cod M_Law_law) 5 = .ok (.iconst 0, 1) := dt_Law_law_c0 3
theorem d_Law_law_6 : decode (jm_cod M_Law_law) 6 = .ok (.invokestatic 102, 3) := dt_Law_law_c0 4
theorem d_Law_law_9 : decode (jm_cod M_Law_law) 9 = .ok (.aload_n 0, 1) := dt_Law_law_c0 5
theorem d_Law_law_10 : decode (jm_cod M_Law_law) 10 = .ok (.iconst 1, 1) := dt_Law_law_c0 6
theorem d_Law_law_11 : decode (jm_cod M_Law_law) 11 = .ok (.invokestatic 102, 3) := dt_Law_law_c0 7
theorem d_Law_law_14 : decode (jm_cod M_Law_law) 14 = .ok (.aload_n 0, 1) := dt_Law_law_c0 8
theorem d_Law_law_15 : decode (jm_cod M_Law_law) 15 = .ok (.iconst 2, 1) := dt_Law_law_c0 9
theorem d_Law_law_16 : decode (jm_cod M_Law_law) 16 = .ok (.invokestatic 102, 3) := dt_Law_law_c0 10
theorem d_Law_law_19 : decode (jm_cod M_Law_law) 19 = .ok (.invokespecial 108, 3) := dt_Law_law_c0 11
theorem d_Law_law_22 : decode (jm_cod M_Law_law) 22 = .ok (.astore_n 1, 1) := dt_Law_law_c0 12
theorem d_Law_law_23 : decode (jm_cod M_Law_law) 23 = .ok (.new 111, 3) := dt_Law_law_c0 13
theorem d_Law_law_26 : decode (jm_cod M_Law_law) 26 = .ok (.dup, 1) := dt_Law_law_c0 14
theorem d_Law_law_27 : decode (jm_cod M_Law_law) 27 = .ok (.aload_n 0, 1) := dt_Law_law_c0 15
theorem d_Law_law_28 : decode (jm_cod M_Law_law) 28 = .ok (.iconst 0, 1) := dt_Law_law_c0 16
theorem d_Law_law_29 : decode (jm_cod M_Law_law) 29 = .ok (.invokestatic 102, 3) := dt_Law_law_c0 17
theorem d_Law_law_32 : decode (jm_cod M_Law_law) 32 = .ok (.aload_n 0, 1) := dt_Law_law_c0 18
theorem d_Law_law_33 : decode (jm_cod M_Law_law) 33 = .ok (.iconst 1, 1) := dt_Law_law_c0 19
theorem d_Law_law_34 : decode (jm_cod M_Law_law) 34 = .ok (.invokestatic 102, 3) := dt_Law_law_c0 20
theorem d_Law_law_37 : decode (jm_cod M_Law_law) 37 = .ok (.aload_n 0, 1) := dt_Law_law_c0 21
theorem d_Law_law_38 : decode (jm_cod M_Law_law) 38 = .ok (.iconst 2, 1) := dt_Law_law_c0 22
theorem d_Law_law_39 : decode (jm_cod M_Law_law) 39 = .ok (.invokestatic 102, 3) := dt_Law_law_c0 23
def tab_Law_law_c1 : List (Nat × Instr × Nat) := [(42, .invokespecial 113, 3), (45, .astore_n 2, 1), (46, .iconst 1, 1), (47, .newarray .long, 2), (49, .astore_n 3, 1), (50, .iconst 3, 1), (51, .istore 4, 2), (53, .iload 4, 2), (55, .aload_n 0, 1), (56, .arraylength, 1), (57, .bipush 7, 2), (59, .isub, 1), (60, .if_icmp .gt 1967, 3), (63, .aload_n 0, 1), (64, .iload 4, 2), (66, .iaload, 1), (67, .bipush 31, 2), (69, .iand, 1), (70, .tableswitch 1951 0 25 #[118, 186, 270, 350, 441, 521, 601, 697, 765, 821, 959, 1015, 1071, 1139, 1206, 1250, 1342, 1421, 1501, 1569, 1637, 1662, 1780, 1836, 1904, 1940], 118), (188, .aload_n 1, 1), (189, .aload_n 0, 1), (190, .iload 4, 2), (192, .iconst 1, 1), (193, .iadd, 1)]
theorem dt_Law_law_c1 (i : Nat) : decode (jm_cod M_Law_law) (tab_Law_law_c1.getD i (42, .invokespecial 113, 3)).1 = .ok ((tab_Law_law_c1.getD i (42, .invokespecial 113, 3)).2.1, (tab_Law_law_c1.getD i (42, .invokespecial 113, 3)).2.2) := j_tab (by decide +kernel) i
theorem d_Law_law_42 : decode (jm_cod M_Law_law) 42 = .ok (.invokespecial 113, 3) := dt_Law_law_c1 0
theorem d_Law_law_45 : decode (jm_cod M_Law_law) 45 = .ok (.astore_n 2, 1) := dt_Law_law_c1 1
theorem d_Law_law_46 : decode (jm_cod M_Law_law) 46 = .ok (.iconst 1, 1) := dt_Law_law_c1 2
theorem d_Law_law_47 : decode (jm_cod M_Law_law) 47 = .ok (.newarray .long, 2) := dt_Law_law_c1 3
theorem d_Law_law_49 : decode (jm_cod M_Law_law) 49 = .ok (.astore_n 3, 1) := dt_Law_law_c1 4
theorem d_Law_law_50 : decode (jm_cod M_Law_law) 50 = .ok (.iconst 3, 1) := dt_Law_law_c1 5
theorem d_Law_law_51 : decode (jm_cod M_Law_law) 51 = .ok (.istore 4, 2) := dt_Law_law_c1 6
theorem d_Law_law_53 : decode (jm_cod M_Law_law) 53 = .ok (.iload 4, 2) := dt_Law_law_c1 7
theorem d_Law_law_55 : decode (jm_cod M_Law_law) 55 = .ok (.aload_n 0, 1) := dt_Law_law_c1 8
theorem d_Law_law_56 : decode (jm_cod M_Law_law) 56 = .ok (.arraylength, 1) := dt_Law_law_c1 9
theorem d_Law_law_57 : decode (jm_cod M_Law_law) 57 = .ok (.bipush 7, 2) := dt_Law_law_c1 10
theorem d_Law_law_59 : decode (jm_cod M_Law_law) 59 = .ok (.isub, 1) := dt_Law_law_c1 11
theorem d_Law_law_60 : decode (jm_cod M_Law_law) 60 = .ok (.if_icmp .gt 1967, 3) := dt_Law_law_c1 12
theorem d_Law_law_63 : decode (jm_cod M_Law_law) 63 = .ok (.aload_n 0, 1) := dt_Law_law_c1 13
theorem d_Law_law_64 : decode (jm_cod M_Law_law) 64 = .ok (.iload 4, 2) := dt_Law_law_c1 14
theorem d_Law_law_66 : decode (jm_cod M_Law_law) 66 = .ok (.iaload, 1) := dt_Law_law_c1 15
theorem d_Law_law_67 : decode (jm_cod M_Law_law) 67 = .ok (.bipush 31, 2) := dt_Law_law_c1 16
theorem d_Law_law_69 : decode (jm_cod M_Law_law) 69 = .ok (.iand, 1) := dt_Law_law_c1 17
theorem d_Law_law_70 : decode (jm_cod M_Law_law) 70 = .ok (.tableswitch 1951 0 25 #[118, 186, 270, 350, 441, 521, 601, 697, 765, 821, 959, 1015, 1071, 1139, 1206, 1250, 1342, 1421, 1501, 1569, 1637, 1662, 1780, 1836, 1904, 1940], 118) := dt_Law_law_c1 18
theorem d_Law_law_188 : decode (jm_cod M_Law_law) 188 = .ok (.aload_n 1, 1) := dt_Law_law_c1 19
theorem d_Law_law_189 : decode (jm_cod M_Law_law) 189 = .ok (.aload_n 0, 1) := dt_Law_law_c1 20
theorem d_Law_law_190 : decode (jm_cod M_Law_law) 190 = .ok (.iload 4, 2) := dt_Law_law_c1 21
theorem d_Law_law_192 : decode (jm_cod M_Law_law) 192 = .ok (.iconst 1, 1) := dt_Law_law_c1 22
theorem d_Law_law_193 : decode (jm_cod M_Law_law) 193 = .ok (.iadd, 1) := dt_Law_law_c1 23
def tab_Law_law_c2 : List (Nat × Instr × Nat) := [(194, .iaload, 1), (195, .aload_n 0, 1), (196, .iload 4, 2), (198, .iconst 2, 1), (199, .iadd, 1), (200, .iaload, 1), (201, .aload_n 3, 1), (202, .invokestatic 114, 3), (205, .istore 5, 2), (207, .aload_n 2, 1), (208, .aload_n 0, 1), (209, .iload 4, 2), (211, .iconst 1, 1), (212, .iadd, 1), (213, .iaload, 1), (214, .aload_n 0, 1), (215, .iload 4, 2), (217, .iconst 2, 1), (218, .iadd, 1), (219, .iaload, 1), (220, .invokevirtual 117, 3), (223, .istore 6, 2), (225, .aload_n 2, 1), (226, .invokevirtual 118, 3)]
theorem dt_Law_law_c2 (i : Nat) : decode (jm_cod M_Law_law) (tab_Law_law_c2.getD i (194, .iaload, 1)).1 = .ok ((tab_Law_law_c2.getD i (194, .iaload, 1)).2.1, (tab_Law_law_c2.getD i (194, .iaload, 1)).2.2) := j_tab (by decide +kernel) i
theorem d_Law_law_194 : decode (jm_cod M_Law_law) 194 = .ok (.iaload, 1) := dt_Law_law_c2 0
theorem d_Law_law_195 : decode (jm_cod M_Law_law) 195 = .ok (.aload_n 0, 1) := dt_Law_law_c2 1
theorem d_Law_law_196 : decode (jm_cod M_Law_law) 196 = .ok (.iload 4, 2) := dt_Law_law_c2 2
theorem d_Law_law_198 : decode (jm_cod M_Law_law) 198 = .ok (.iconst 2, 1) := dt_Law_law_c2 3
theorem d_Law_law_199 : decode (jm_cod M_Law_law) 199 = .ok (.iadd, 1) := dt_Law_law_c2 4
theorem d_Law_law_200 : decode (jm_cod M_Law_law) 200 = .ok (.iaload, 1) := dt_Law_law_c2 5
theorem d_Law_law_201 : decode (jm_cod M_Law_law) 201 = .ok (.aload_n 3, 1) := dt_Law_law_c2 6
theorem d_Law_law_202 : decode (jm_cod M_Law_law) 202 = .ok (.invokestatic 114, 3) := dt_Law_law_c2 7
theorem d_Law_law_205 : decode (jm_cod M_Law_law) 205 = .ok (.istore 5, 2) := dt_Law_law_c2 8
theorem d_Law_law_207 : decode (jm_cod M_Law_law) 207 = .ok (.aload_n 2, 1) := dt_Law_law_c2 9
theorem d_Law_law_208 : decode (jm_cod M_Law_law) 208 = .ok (.aload_n 0, 1) := dt_Law_law_c2 10
theorem d_Law_law_209 : decode (jm_cod M_Law_law) 209 = .ok (.iload 4, 2) := dt_Law_law_c2 11
theorem d_Law_law_211 : decode (jm_cod M_Law_law) 211 = .ok (.iconst 1, 1) := dt_Law_law_c2 12
theorem d_Law_law_212 : decode (jm_cod M_Law_law) 212 = .ok (.iadd, 1) := dt_Law_law_c2 13
theorem d_Law_law_213 : decode (jm_cod M_Law_law) 213 = .ok (.iaload, 1) := dt_Law_law_c2 14
theorem d_Law_law_214 : decode (jm_cod M_Law_law) 214 = .ok (.aload_n 0, 1) := dt_Law_law_c2 15
theorem d_Law_law_215 : decode (jm_cod M_Law_law) 215 = .ok (.iload 4, 2) := dt_Law_law_c2 16
theorem d_Law_law_217 : decode (jm_cod M_Law_law) 217 = .ok (.iconst 2, 1) := dt_Law_law_c2 17
theorem d_Law_law_218 : decode (jm_cod M_Law_law) 218 = .ok (.iadd, 1) := dt_Law_law_c2 18
theorem d_Law_law_219 : decode (jm_cod M_Law_law) 219 = .ok (.iaload, 1) := dt_Law_law_c2 19
theorem d_Law_law_220 : decode (jm_cod M_Law_law) 220 = .ok (.invokevirtual 117, 3) := dt_Law_law_c2 20
theorem d_Law_law_223 : decode (jm_cod M_Law_law) 223 = .ok (.istore 6, 2) := dt_Law_law_c2 21
theorem d_Law_law_225 : decode (jm_cod M_Law_law) 225 = .ok (.aload_n 2, 1) := dt_Law_law_c2 22
theorem d_Law_law_226 : decode (jm_cod M_Law_law) 226 = .ok (.invokevirtual 118, 3) := dt_Law_law_c2 23
def tab_Law_law_c3 : List (Nat × Instr × Nat) := [(229, .iload 5, 2), (231, .if_icmp .eq 5, 3), (234, .iconst 0, 1), (235, .ireturn, 1), (236, .iload 5, 2), (238, .ifCond .ne 15, 3), (241, .aload_n 3, 1), (242, .iconst 0, 1), (243, .laload, 1), (244, .iload 6, 2), (246, .i2l, 1), (247, .lcmp, 1), (248, .ifCond .eq 5, 3), (251, .iconst 0, 1), (252, .ireturn, 1), (253, .goto 1768, 3), (256, .aload_n 1, 1), (257, .aload_n 0, 1), (258, .iload 4, 2), (260, .iconst 1, 1), (261, .iadd, 1), (262, .iaload, 1), (263, .aload_n 0, 1), (264, .iload 4, 2)]
theorem dt_Law_law_c3 (i : Nat) : decode (jm_cod M_Law_law) (tab_Law_law_c3.getD i (229, .iload 5, 2)).1 = .ok ((tab_Law_law_c3.getD i (229, .iload 5, 2)).2.1, (tab_Law_law_c3.getD i (229, .iload 5, 2)).2.2) := j_tab (by decide +kernel) i
theorem d_Law_law_229 : decode (jm_cod M_Law_law) 229 = .ok (.iload 5, 2) := dt_Law_law_c3 0
theorem d_Law_law_231 : decode (jm_cod M_Law_law) 231 = .ok (.if_icmp .eq 5, 3) := dt_Law_law_c3 1
theorem d_Law_law_234 : decode (jm_cod M_Law_law) 234 = .ok (.iconst 0, 1) := dt_Law_law_c3 2
theorem d_Law_law_235 : decode (jm_cod M_Law_law) 235 = .ok (.ireturn, 1) := dt_Law_law_c3 3
theorem d_Law_law_236 : decode (jm_cod M_Law_law) 236 = .ok (.iload 5, 2) := dt_Law_law_c3 4
theorem d_Law_law_238 : decode (jm_cod M_Law_law) 238 = .ok (.ifCond .ne 15, 3) := dt_Law_law_c3 5
theorem d_Law_law_241 : decode (jm_cod M_Law_law) 241 = .ok (.aload_n 3, 1) := dt_Law_law_c3 6
theorem d_Law_law_242 : decode (jm_cod M_Law_law) 242 = .ok (.iconst 0, 1) := dt_Law_law_c3 7
theorem d_Law_law_243 : decode (jm_cod M_Law_law) 243 = .ok (.laload, 1) := dt_Law_law_c3 8
theorem d_Law_law_244 : decode (jm_cod M_Law_law) 244 = .ok (.iload 6, 2) := dt_Law_law_c3 9
theorem d_Law_law_246 : decode (jm_cod M_Law_law) 246 = .ok (.i2l, 1) := dt_Law_law_c3 10
theorem d_Law_law_247 : decode (jm_cod M_Law_law) 247 = .ok (.lcmp, 1) := dt_Law_law_c3 11
theorem d_Law_law_248 : decode (jm_cod M_Law_law) 248 = .ok (.ifCond .eq 5, 3) := dt_Law_law_c3 12
theorem d_Law_law_251 : decode (jm_cod M_Law_law) 251 = .ok (.iconst 0, 1) := dt_Law_law_c3 13
theorem d_Law_law_252 : decode (jm_cod M_Law_law) 252 = .ok (.ireturn, 1) := dt_Law_law_c3 14
theorem d_Law_law_253 : decode (jm_cod M_Law_law) 253 = .ok (.goto 1768, 3) := dt_Law_law_c3 15
theorem d_Law_law_256 : decode (jm_cod M_Law_law) 256 = .ok (.aload_n 1, 1) := dt_Law_law_c3 16
theorem d_Law_law_257 : decode (jm_cod M_Law_law) 257 = .ok (.aload_n 0, 1) := dt_Law_law_c3 17
theorem d_Law_law_258 : decode (jm_cod M_Law_law) 258 = .ok (.iload 4, 2) := dt_Law_law_c3 18
theorem d_Law_law_260 : decode (jm_cod M_Law_law) 260 = .ok (.iconst 1, 1) := dt_Law_law_c3 19
theorem d_Law_law_261 : decode (jm_cod M_Law_law) 261 = .ok (.iadd, 1) := dt_Law_law_c3 20
theorem d_Law_law_262 : decode (jm_cod M_Law_law) 262 = .ok (.iaload, 1) := dt_Law_law_c3 21
theorem d_Law_law_263 : decode (jm_cod M_Law_law) 263 = .ok (.aload_n 0, 1) := dt_Law_law_c3 22
theorem d_Law_law_264 : decode (jm_cod M_Law_law) 264 = .ok (.iload 4, 2) := dt_Law_law_c3 23
def tab_Law_law_c4 : List (Nat × Instr × Nat) := [(266, .iconst 2, 1), (267, .iadd, 1), (268, .iaload, 1), (269, .ifCond .eq 7, 3), (272, .iconst 1, 1), (273, .goto 4, 3), (276, .iconst 0, 1), (277, .aload_n 3, 1), (278, .invokestatic 121, 3), (281, .istore 5, 2), (283, .aload_n 2, 1), (284, .aload_n 0, 1), (285, .iload 4, 2), (287, .iconst 1, 1), (288, .iadd, 1), (289, .iaload, 1), (290, .aload_n 0, 1), (291, .iload 4, 2), (293, .iconst 2, 1), (294, .iadd, 1), (295, .iaload, 1), (296, .ifCond .eq 7, 3), (299, .iconst 1, 1), (300, .goto 4, 3)]
theorem dt_Law_law_c4 (i : Nat) : decode (jm_cod M_Law_law) (tab_Law_law_c4.getD i (266, .iconst 2, 1)).1 = .ok ((tab_Law_law_c4.getD i (266, .iconst 2, 1)).2.1, (tab_Law_law_c4.getD i (266, .iconst 2, 1)).2.2) := j_tab (by decide +kernel) i
theorem d_Law_law_266 : decode (jm_cod M_Law_law) 266 = .ok (.iconst 2, 1) := dt_Law_law_c4 0
theorem d_Law_law_267 : decode (jm_cod M_Law_law) 267 = .ok (.iadd, 1) := dt_Law_law_c4 1
theorem d_Law_law_268 : decode (jm_cod M_Law_law) 268 = .ok (.iaload, 1) := dt_Law_law_c4 2
theorem d_Law_law_269 : decode (jm_cod M_Law_law) 269 = .ok (.ifCond .eq 7, 3) := dt_Law_law_c4 3
theorem d_Law_law_272 : decode (jm_cod M_Law_law) 272 = .ok (.iconst 1, 1) := dt_Law_law_c4 4
theorem d_Law_law_273 : decode (jm_cod M_Law_law) 273 = .ok (.goto 4, 3) := dt_Law_law_c4 5
theorem d_Law_law_276 : decode (jm_cod M_Law_law) 276 = .ok (.iconst 0, 1) := dt_Law_law_c4 6
theorem d_Law_law_277 : decode (jm_cod M_Law_law) 277 = .ok (.aload_n 3, 1) := dt_Law_law_c4 7
theorem d_Law_law_278 : decode (jm_cod M_Law_law) 278 = .ok (.invokestatic 121, 3) := dt_Law_law_c4 8
theorem d_Law_law_281 : decode (jm_cod M_Law_law) 281 = .ok (.istore 5, 2) := dt_Law_law_c4 9
theorem d_Law_law_283 : decode (jm_cod M_Law_law) 283 = .ok (.aload_n 2, 1) := dt_Law_law_c4 10
theorem d_Law_law_284 : decode (jm_cod M_Law_law) 284 = .ok (.aload_n 0, 1) := dt_Law_law_c4 11
theorem d_Law_law_285 : decode (jm_cod M_Law_law) 285 = .ok (.iload 4, 2) := dt_Law_law_c4 12
theorem d_Law_law_287 : decode (jm_cod M_Law_law) 287 = .ok (.iconst 1, 1) := dt_Law_law_c4 13
theorem d_Law_law_288 : decode (jm_cod M_Law_law) 288 = .ok (.iadd, 1) := dt_Law_law_c4 14
theorem d_Law_law_289 : decode (jm_cod M_Law_law) 289 = .ok (.iaload, 1) := dt_Law_law_c4 15
theorem d_Law_law_290 : decode (jm_cod M_Law_law) 290 = .ok (.aload_n 0, 1) := dt_Law_law_c4 16
theorem d_Law_law_291 : decode (jm_cod M_Law_law) 291 = .ok (.iload 4, 2) := dt_Law_law_c4 17
theorem d_Law_law_293 : decode (jm_cod M_Law_law) 293 = .ok (.iconst 2, 1) := dt_Law_law_c4 18
theorem d_Law_law_294 : decode (jm_cod M_Law_law) 294 = .ok (.iadd, 1) := dt_Law_law_c4 19
theorem d_Law_law_295 : decode (jm_cod M_Law_law) 295 = .ok (.iaload, 1) := dt_Law_law_c4 20
theorem d_Law_law_296 : decode (jm_cod M_Law_law) 296 = .ok (.ifCond .eq 7, 3) := dt_Law_law_c4 21
theorem d_Law_law_299 : decode (jm_cod M_Law_law) 299 = .ok (.iconst 1, 1) := dt_Law_law_c4 22
theorem d_Law_law_300 : decode (jm_cod M_Law_law) 300 = .ok (.goto 4, 3) := dt_Law_law_c4 23
def tab_Law_law_c5 : List (Nat × Instr × Nat) := [(303, .iconst 0, 1), (304, .invokevirtual 124, 3), (307, .istore 6, 2), (309, .aload_n 2, 1), (310, .invokevirtual 118, 3), (313, .iload 5, 2), (315, .if_icmp .eq 5, 3), (318, .iconst 0, 1), (319, .ireturn, 1), (320, .iload 5, 2), (322, .ifCond .ne 15, 3), (325, .aload_n 3, 1), (326, .iconst 0, 1), (327, .laload, 1), (328, .iload 6, 2), (330, .i2l, 1), (331, .lcmp, 1), (332, .ifCond .eq 5, 3), (335, .iconst 0, 1), (336, .ireturn, 1), (337, .goto 1684, 3), (340, .aload_n 1, 1), (341, .aload_n 0, 1), (342, .iload 4, 2)]
theorem dt_Law_law_c5 (i : Nat) : decode (jm_cod M_Law_law) (tab_Law_law_c5.getD i (303, .iconst 0, 1)).1 = .ok ((tab_Law_law_c5.getD i (303, .iconst 0, 1)).2.1, (tab_Law_law_c5.getD i (303, .iconst 0, 1)).2.2) := j_tab (by decide +kernel) i
theorem d_Law_law_303 : decode (jm_cod M_Law_law) 303 = .ok (.iconst 0, 1) := dt_Law_law_c5 0
theorem d_Law_law_304 : decode (jm_cod M_Law_law) 304 = .ok (.invokevirtual 124, 3) := dt_Law_law_c5 1
theorem d_Law_law_307 : decode (jm_cod M_Law_law) 307 = .ok (.istore 6, 2) := dt_Law_law_c5 2
theorem d_Law_law_309 : decode (jm_cod M_Law_law) 309 = .ok (.aload_n 2, 1) := dt_Law_law_c5 3
theorem d_Law_law_310 : decode (jm_cod M_Law_law) 310 = .ok (.invokevirtual 118, 3) := dt_Law_law_c5 4
theorem d_Law_law_313 : decode (jm_cod M_Law_law) 313 = .ok (.iload 5, 2) := dt_Law_law_c5 5
theorem d_Law_law_315 : decode (jm_cod M_Law_law) 315 = .ok (.if_icmp .eq 5, 3) := dt_Law_law_c5 6
theorem d_Law_law_318 : decode (jm_cod M_Law_law) 318 = .ok (.iconst 0, 1) := dt_Law_law_c5 7
theorem d_Law_law_319 : decode (jm_cod M_Law_law) 319 = .ok (.ireturn, 1) := dt_Law_law_c5 8
theorem d_Law_law_320 : decode (jm_cod M_Law_law) 320 = .ok (.iload 5, 2) := dt_Law_law_c5 9
theorem d_Law_law_322 : decode (jm_cod M_Law_law) 322 = .ok (.ifCond .ne 15, 3) := dt_Law_law_c5 10
theorem d_Law_law_325 : decode (jm_cod M_Law_law) 325 = .ok (.aload_n 3, 1) := dt_Law_law_c5 11
theorem d_Law_law_326 : decode (jm_cod M_Law_law) 326 = .ok (.iconst 0, 1) := dt_Law_law_c5 12
theorem d_Law_law_327 : decode (jm_cod M_Law_law) 327 = .ok (.laload, 1) := dt_Law_law_c5 13
theorem d_Law_law_328 : decode (jm_cod M_Law_law) 328 = .ok (.iload 6, 2) := dt_Law_law_c5 14
theorem d_Law_law_330 : decode (jm_cod M_Law_law) 330 = .ok (.i2l, 1) := dt_Law_law_c5 15
theorem d_Law_law_331 : decode (jm_cod M_Law_law) 331 = .ok (.lcmp, 1) := dt_Law_law_c5 16
theorem d_Law_law_332 : decode (jm_cod M_Law_law) 332 = .ok (.ifCond .eq 5, 3) := dt_Law_law_c5 17
theorem d_Law_law_335 : decode (jm_cod M_Law_law) 335 = .ok (.iconst 0, 1) := dt_Law_law_c5 18
theorem d_Law_law_336 : decode (jm_cod M_Law_law) 336 = .ok (.ireturn, 1) := dt_Law_law_c5 19
theorem d_Law_law_337 : decode (jm_cod M_Law_law) 337 = .ok (.goto 1684, 3) := dt_Law_law_c5 20
theorem d_Law_law_340 : decode (jm_cod M_Law_law) 340 = .ok (.aload_n 1, 1) := dt_Law_law_c5 21
theorem d_Law_law_341 : decode (jm_cod M_Law_law) 341 = .ok (.aload_n 0, 1) := dt_Law_law_c5 22
theorem d_Law_law_342 : decode (jm_cod M_Law_law) 342 = .ok (.iload 4, 2) := dt_Law_law_c5 23
def tab_Law_law_c6 : List (Nat × Instr × Nat) := [(344, .iconst 1, 1), (345, .iadd, 1), (346, .iaload, 1), (347, .aload_n 0, 1), (348, .iload 4, 2), (350, .iconst 2, 1), (351, .iadd, 1), (352, .iaload, 1), (353, .aload_n 0, 1), (354, .iload 4, 2), (356, .iconst 3, 1), (357, .iadd, 1), (358, .iaload, 1), (359, .aload_n 3, 1), (360, .invokestatic 125, 3), (363, .istore 5, 2), (365, .aload_n 2, 1), (366, .aload_n 0, 1), (367, .iload 4, 2), (369, .iconst 1, 1), (370, .iadd, 1), (371, .iaload, 1), (372, .aload_n 0, 1), (373, .iload 4, 2)]
theorem dt_Law_law_c6 (i : Nat) : decode (jm_cod M_Law_law) (tab_Law_law_c6.getD i (344, .iconst 1, 1)).1 = .ok ((tab_Law_law_c6.getD i (344, .iconst 1, 1)).2.1, (tab_Law_law_c6.getD i (344, .iconst 1, 1)).2.2) := j_tab (by decide +kernel) i
theorem d_Law_law_344 : decode (jm_cod M_Law_law) 344 = .ok (.iconst 1, 1) := dt_Law_law_c6 0
theorem d_Law_law_345 : decode (jm_cod M_Law_law) 345 = .ok (.iadd, 1) := dt_Law_law_c6 1
theorem d_Law_law_346 : decode (jm_cod M_Law_law) 346 = .ok (.iaload, 1) := dt_Law_law_c6 2
theorem d_Law_law_347 : decode (jm_cod M_Law_law) 347 = .ok (.aload_n 0, 1) := dt_Law_law_c6 3
theorem d_Law_law_348 : decode (jm_cod M_Law_law) 348 = .ok (.iload 4, 2) := dt_Law_law_c6 4
theorem d_Law_law_350 : decode (jm_cod M_Law_law) 350 = .ok (.iconst 2, 1) := dt_Law_law_c6 5
theorem d_Law_law_351 : decode (jm_cod M_Law_law) 351 = .ok (.iadd, 1) := dt_Law_law_c6 6
theorem d_Law_law_352 : decode (jm_cod M_Law_law) 352 = .ok (.iaload, 1) := dt_Law_law_c6 7
theorem d_Law_law_353 : decode (jm_cod M_Law_law) 353 = .ok (.aload_n 0, 1) := dt_Law_law_c6 8
theorem d_Law_law_354 : decode (jm_cod M_Law_law) 354 = .ok (.iload 4, 2) := dt_Law_law_c6 9
theorem d_Law_law_356 : decode (jm_cod M_Law_law) 356 = .ok (.iconst 3, 1) := dt_Law_law_c6 10
theorem d_Law_law_357 : decode (jm_cod M_Law_law) 357 = .ok (.iadd, 1) := dt_Law_law_c6 11
theorem d_Law_law_358 : decode (jm_cod M_Law_law) 358 = .ok (.iaload, 1) := dt_Law_law_c6 12
theorem d_Law_law_359 : decode (jm_cod M_Law_law) 359 = .ok (.aload_n 3, 1) := dt_Law_law_c6 13
theorem d_Law_law_360 : decode (jm_cod M_Law_law) 360 = .ok (.invokestatic 125, 3) := dt_Law_law_c6 14
theorem d_Law_law_363 : decode (jm_cod M_Law_law) 363 = .ok (.istore 5, 2) := dt_Law_law_c6 15
theorem d_Law_law_365 : decode (jm_cod M_Law_law) 365 = .ok (.aload_n 2, 1) := dt_Law_law_c6 16
theorem d_Law_law_366 : decode (jm_cod M_Law_law) 366 = .ok (.aload_n 0, 1) := dt_Law_law_c6 17
theorem d_Law_law_367 : decode (jm_cod M_Law_law) 367 = .ok (.iload 4, 2) := dt_Law_law_c6 18
theorem d_Law_law_369 : decode (jm_cod M_Law_law) 369 = .ok (.iconst 1, 1) := dt_Law_law_c6 19
theorem d_Law_law_370 : decode (jm_cod M_Law_law) 370 = .ok (.iadd, 1) := dt_Law_law_c6 20
theorem d_Law_law_371 : decode (jm_cod M_Law_law) 371 = .ok (.iaload, 1) := dt_Law_law_c6 21
theorem d_Law_law_372 : decode (jm_cod M_Law_law) 372 = .ok (.aload_n 0, 1) := dt_Law_law_c6 22
theorem d_Law_law_373 : decode (jm_cod M_Law_law) 373 = .ok (.iload 4, 2) := dt_Law_law_c6 23
def tab_Law_law_c7 : List (Nat × Instr × Nat) := [(375, .iconst 2, 1), (376, .iadd, 1), (377, .iaload, 1), (378, .aload_n 0, 1), (379, .iload 4, 2), (381, .iconst 3, 1), (382, .iadd, 1), (383, .iaload, 1), (384, .invokevirtual 128, 3), (387, .istore 6, 2), (389, .aload_n 2, 1), (390, .invokevirtual 118, 3), (393, .iload 5, 2), (395, .if_icmp .eq 5, 3), (398, .iconst 0, 1), (399, .ireturn, 1), (400, .iload 5, 2), (402, .ifCond .ne 15, 3), (405, .aload_n 3, 1), (406, .iconst 0, 1), (407, .laload, 1), (408, .iload 6, 2), (410, .i2l, 1), (411, .lcmp, 1)]
theorem dt_Law_law_c7 (i : Nat) : decode (jm_cod M_Law_law) (tab_Law_law_c7.getD i (375, .iconst 2, 1)).1 = .ok ((tab_Law_law_c7.getD i (375, .iconst 2, 1)).2.1, (tab_Law_law_c7.getD i (375, .iconst 2, 1)).2.2) := j_tab (by decide +kernel) i
theorem d_Law_law_375 : decode (jm_cod M_Law_law) 375 = .ok (.iconst 2, 1) := dt_Law_law_c7 0
theorem d_Law_law_376 : decode (jm_cod M_Law_law) 376 = .ok (.iadd, 1) := dt_Law_law_c7 1
theorem d_Law_law_377 : decode (jm_cod M_Law_law) 377 = .ok (.iaload, 1) := dt_Law_law_c7 2
theorem d_Law_law_378 : decode (jm_cod M_Law_law) 378 = .ok (.aload_n 0, 1) := dt_Law_law_c7 3
theorem d_Law_law_379 : decode (jm_cod M_Law_law) 379 = .ok (.iload 4, 2) := dt_Law_law_c7 4
theorem d_Law_law_381 : decode (jm_cod M_Law_law) 381 = .ok (.iconst 3, 1) := dt_Law_law_c7 5
theorem d_Law_law_382 : decode (jm_cod M_Law_law) 382 = .ok (.iadd, 1) := dt_Law_law_c7 6
theorem d_Law_law_383 : decode (jm_cod M_Law_law) 383 = .ok (.iaload, 1) := dt_Law_law_c7 7
theorem d_Law_law_384 : decode (jm_cod M_Law_law) 384 = .ok (.invokevirtual 128, 3) := dt_Law_law_c7 8
theorem d_Law_law_387 : decode (jm_cod M_Law_law) 387 = .ok (.istore 6, 2) := dt_Law_law_c7 9
theorem d_Law_law_389 : decode (jm_cod M_Law_law) 389 = .ok (.aload_n 2, 1) := dt_Law_law_c7 10
theorem d_Law_law_390 : decode (jm_cod M_Law_law) 390 = .ok (.invokevirtual 118, 3) := dt_Law_law_c7 11
theorem d_Law_law_393 : decode (jm_cod M_Law_law) 393 = .ok (.iload 5, 2) := dt_Law_law_c7 12
theorem d_Law_law_395 : decode (jm_cod M_Law_law) 395 = .ok (.if_icmp .eq 5, 3) := dt_Law_law_c7 13
theorem d_Law_law_398 : decode (jm_cod M_Law_law) 398 = .ok (.iconst 0, 1) := dt_Law_law_c7 14
theorem d_Law_law_399 : decode (jm_cod M_Law_law) 399 = .ok (.ireturn, 1) := dt_Law_law_c7 15
theorem d_Law_law_400 : decode (jm_cod M_Law_law) 400 = .ok (.iload 5, 2) := dt_Law_law_c7 16
theorem d_Law_law_402 : decode (jm_cod M_Law_law) 402 = .ok (.ifCond .ne 15, 3) := dt_Law_law_c7 17
theorem d_Law_law_405 : decode (jm_cod M_Law_law) 405 = .ok (.aload_n 3, 1) := dt_Law_law_c7 18
theorem d_Law_law_406 : decode (jm_cod M_Law_law) 406 = .ok (.iconst 0, 1) := dt_Law_law_c7 19
theorem d_Law_law_407 : decode (jm_cod M_Law_law) 407 = .ok (.laload, 1) := dt_Law_law_c7 20
theorem d_Law_law_408 : decode (jm_cod M_Law_law) 408 = .ok (.iload 6, 2) := dt_Law_law_c7 21
theorem d_Law_law_410 : decode (jm_cod M_Law_law) 410 = .ok (.i2l, 1) := dt_Law_law_c7 22
theorem d_Law_law_411 : decode (jm_cod M_Law_law) 411 = .ok (.lcmp, 1) := dt_Law_law_c7 23
def tab_Law_law_c8 : List (Nat × Instr × Nat) := [(412, .ifCond .eq 5, 3), (415, .iconst 0, 1), (416, .ireturn, 1), (417, .goto 1604, 3), (420, .aload_n 1, 1), (421, .aload_n 0, 1), (422, .iload 4, 2), (424, .iconst 1, 1), (425, .iadd, 1), (426, .iaload, 1), (427, .aload_n 0, 1), (428, .iload 4, 2), (430, .iconst 2, 1), (431, .iadd, 1), (432, .iaload, 1), (433, .ifCond .eq 7, 3), (436, .iconst 1, 1), (437, .goto 4, 3), (440, .iconst 0, 1), (441, .aload_n 3, 1), (442, .invokestatic 129, 3), (445, .istore 5, 2), (447, .aload_n 2, 1), (448, .aload_n 0, 1)]
theorem dt_Law_law_c8 (i : Nat) : decode (jm_cod M_Law_law) (tab_Law_law_c8.getD i (412, .ifCond .eq 5, 3)).1 = .ok ((tab_Law_law_c8.getD i (412, .ifCond .eq 5, 3)).2.1, (tab_Law_law_c8.getD i (412, .ifCond .eq 5, 3)).2.2) := j_tab (by decide +kernel) i
theorem d_Law_law_412 : decode (jm_cod M_Law_law) 412 = .ok (.ifCond .eq 5, 3) := dt_Law_law_c8 0
theorem d_Law_law_415 : decode (jm_cod M_Law_law) 415 = .ok (.iconst 0, 1) := dt_Law_law_c8 1
theorem d_Law_law_416 : decode (jm_cod M_Law_law) 416 = .ok (.ireturn, 1) := dt_Law_law_c8 2
theorem d_Law_law_417 : decode (jm_cod M_Law_law) 417 = .ok (.goto 1604, 3) := dt_Law_law_c8 3
theorem d_Law_law_420 : decode (jm_cod M_Law_law) 420 = .ok (.aload_n 1, 1) := dt_Law_law_c8 4
theorem d_Law_law_421 : decode (jm_cod M_Law_law) 421 = .ok (.aload_n 0, 1) := dt_Law_law_c8 5
theorem d_Law_law_422 : decode (jm_cod M_Law_law) 422 = .ok (.iload 4, 2) := dt_Law_law_c8 6
theorem d_Law_law_424 : decode (jm_cod M_Law_law) 424 = .ok (.iconst 1, 1) := dt_Law_law_c8 7
theorem d_Law_law_425 : decode (jm_cod M_Law_law) 425 = .ok (.iadd, 1) := dt_Law_law_c8 8
theorem d_Law_law_426 : decode (jm_cod M_Law_law) 426 = .ok (.iaload, 1) := dt_Law_law_c8 9
theorem d_Law_law_427 : decode (jm_cod M_Law_law) 427 = .ok (.aload_n 0, 1) := dt_Law_law_c8 10
theorem d_Law_law_428 : decode (jm_cod M_Law_law) 428 = .ok (.iload 4, 2) := dt_Law_law_c8 11
theorem d_Law_law_430 : decode (jm_cod M_Law_law) 430 = .ok (.iconst 2, 1) := dt_Law_law_c8 12
theorem d_Law_law_431 : decode (jm_cod M_Law_law) 431 = .ok (.iadd, 1) := dt_Law_law_c8 13
theorem d_Law_law_432 : decode (jm_cod M_Law_law) 432 = .ok (.iaload, 1) := dt_Law_law_c8 14
theorem d_Law_law_433 : decode (jm_cod M_Law_law) 433 = .ok (.ifCond .eq 7, 3) := dt_Law_law_c8 15
theorem d_Law_law_436 : decode (jm_cod M_Law_law) 436 = .ok (.iconst 1, 1) := dt_Law_law_c8 16
theorem d_Law_law_437 : decode (jm_cod M_Law_law) 437 = .ok (.goto 4, 3) := dt_Law_law_c8 17
theorem d_Law_law_440 : decode (jm_cod M_Law_law) 440 = .ok (.iconst 0, 1) := dt_Law_law_c8 18
theorem d_Law_law_441 : decode (jm_cod M_Law_law) 441 = .ok (.aload_n 3, 1) := dt_Law_law_c8 19
theorem d_Law_law_442 : decode (jm_cod M_Law_law) 442 = .ok (.invokestatic 129, 3) := dt_Law_law_c8 20
theorem d_Law_law_445 : decode (jm_cod M_Law_law) 445 = .ok (.istore 5, 2) := dt_Law_law_c8 21
theorem d_Law_law_447 : decode (jm_cod M_Law_law) 447 = .ok (.aload_n 2, 1) := dt_Law_law_c8 22
theorem d_Law_law_448 : decode (jm_cod M_Law_law) 448 = .ok (.aload_n 0, 1) := dt_Law_law_c8 23
def tab_Law_law_c9 : List (Nat × Instr × Nat) := [(449, .iload 4, 2), (451, .iconst 1, 1), (452, .iadd, 1), (453, .iaload, 1), (454, .aload_n 0, 1), (455, .iload 4, 2), (457, .iconst 2, 1), (458, .iadd, 1), (459, .iaload, 1), (460, .ifCond .eq 7, 3), (463, .iconst 1, 1), (464, .goto 4, 3), (467, .iconst 0, 1), (468, .invokevirtual 131, 3), (471, .istore 6, 2), (473, .aload_n 2, 1), (474, .invokevirtual 118, 3), (477, .iload 5, 2), (479, .if_icmp .eq 5, 3), (482, .iconst 0, 1), (483, .ireturn, 1), (484, .iload 5, 2), (486, .ifCond .ne 22, 3), (489, .aload_n 3, 1)]
theorem dt_Law_law_c9 (i : Nat) : decode (jm_cod M_Law_law) (tab_Law_law_c9.getD i (449, .iload 4, 2)).1 = .ok ((tab_Law_law_c9.getD i (449, .iload 4, 2)).2.1, (tab_Law_law_c9.getD i (449, .iload 4, 2)).2.2) := j_tab (by decide +kernel) i
theorem d_Law_law_449 : decode (jm_cod M_Law_law) 449 = .ok (.iload 4, 2) := dt_Law_law_c9 0
theorem d_Law_law_451 : decode (jm_cod M_Law_law) 451 = .ok (.iconst 1, 1) := dt_Law_law_c9 1
theorem d_Law_law_452 : decode (jm_cod M_Law_law) 452 = .ok (.iadd, 1) := dt_Law_law_c9 2
theorem d_Law_law_453 : decode (jm_cod M_Law_law) 453 = .ok (.iaload, 1) := dt_Law_law_c9 3
theorem d_Law_law_454 : decode (jm_cod M_Law_law) 454 = .ok (.aload_n 0, 1) := dt_Law_law_c9 4
theorem d_Law_law_455 : decode (jm_cod M_Law_law) 455 = .ok (.iload 4, 2) := dt_Law_law_c9 5
theorem d_Law_law_457 : decode (jm_cod M_Law_law) 457 = .ok (.iconst 2, 1) := dt_Law_law_c9 6
theorem d_Law_law_458 : decode (jm_cod M_Law_law) 458 = .ok (.iadd, 1) := dt_Law_law_c9 7
theorem d_Law_law_459 : decode (jm_cod M_Law_law) 459 = .ok (.iaload, 1) := dt_Law_law_c9 8
theorem d_Law_law_460 : decode (jm_cod M_Law_law) 460 = .ok (.ifCond .eq 7, 3) := dt_Law_law_c9 9
theorem d_Law_law_463 : decode (jm_cod M_Law_law) 463 = .ok (.iconst 1, 1) := dt_Law_law_c9 10
theorem d_Law_law_464 : decode (jm_cod M_Law_law) 464 = .ok (.goto 4, 3) := dt_Law_law_c9 11
theorem d_Law_law_467 : decode (jm_cod M_Law_law) 467 = .ok (.iconst 0, 1) := dt_Law_law_c9 12
theorem d_Law_law_468 : decode (jm_cod M_Law_law) 468 = .ok (.invokevirtual 131, 3) := dt_Law_law_c9 13
theorem d_Law_law_471 : decode (jm_cod M_Law_law) 471 = .ok (.istore 6, 2) := dt_Law_law_c9 14
theorem d_Law_law_473 : decode (jm_cod M_Law_law) 473 = .ok (.aload_n 2, 1) := dt_Law_law_c9 15
theorem d_Law_law_474 : decode (jm_cod M_Law_law) 474 = .ok (.invokevirtual 118, 3) := dt_Law_law_c9 16
theorem d_Law_law_477 : decode (jm_cod M_Law_law) 477 = .ok (.iload 5, 2) := dt_Law_law_c9 17
theorem d_Law_law_479 : decode (jm_cod M_Law_law) 479 = .ok (.if_icmp .eq 5, 3) := dt_Law_law_c9 18
theorem d_Law_law_482 : decode (jm_cod M_Law_law) 482 = .ok (.iconst 0, 1) := dt_Law_law_c9 19
theorem d_Law_law_483 : decode (jm_cod M_Law_law) 483 = .ok (.ireturn, 1) := dt_Law_law_c9 20
theorem d_Law_law_484 : decode (jm_cod M_Law_law) 484 = .ok (.iload 5, 2) := dt_Law_law_c9 21
theorem d_Law_law_486 : decode (jm_cod M_Law_law) 486 = .ok (.ifCond .ne 22, 3) := dt_Law_law_c9 22
theorem d_Law_law_489 : decode (jm_cod M_Law_law) 489 = .ok (.aload_n 3, 1) := dt_Law_law_c9 23
def tab_Law_law_c10 : List (Nat × Instr × Nat) := [(490, .iconst 0, 1), (491, .laload, 1), (492, .iload 6, 2), (494, .ifCond .eq 7, 3), (497, .lconst 1, 1), (498, .goto 4, 3), (501, .lconst 0, 1), (502, .lcmp, 1), (503, .ifCond .eq 5, 3), (506, .iconst 0, 1), (507, .ireturn, 1), (508, .goto 1513, 3), (511, .aload_n 1, 1), (512, .aload_n 0, 1), (513, .iload 4, 2), (515, .iconst 1, 1), (516, .iadd, 1), (517, .iaload, 1), (518, .aload_n 0, 1), (519, .iload 4, 2), (521, .iconst 2, 1), (522, .iadd, 1), (523, .iaload, 1), (524, .aload_n 0, 1)]
theorem dt_Law_law_c10 (i : Nat) : decode (jm_cod M_Law_law) (tab_Law_law_c10.getD i (490, .iconst 0, 1)).1 = .ok ((tab_Law_law_c10.getD i (490, .iconst 0, 1)).2.1, (tab_Law_law_c10.getD i (490, .iconst 0, 1)).2.2) := j_tab (by decide +kernel) i
theorem d_Law_law_490 : decode (jm_cod M_Law_law) 490 = .ok (.iconst 0, 1) := dt_Law_law_c10 0
theorem d_Law_law_491 : decode (jm_cod M_Law_law) 491 = .ok (.laload, 1) := dt_Law_law_c10 1
theorem d_Law_law_492 : decode (jm_cod M_Law_law) 492 = .ok (.iload 6, 2) := dt_Law_law_c10 2
theorem d_Law_law_494 : decode (jm_cod M_Law_law) 494 = .ok (.ifCond .eq 7, 3) := dt_Law_law_c10 3
theorem d_Law_law_497 : decode (jm_cod M_Law_law) 497 = .ok (.lconst 1, 1) := dt_Law_law_c10 4
theorem d_Law_law_498 : decode (jm_cod M_Law_law) 498 = .ok (.goto 4, 3) := dt_Law_law_c10 5
theorem d_Law_law_501 : decode (jm_cod M_Law_law) 501 = .ok (.lconst 0, 1) := dt_Law_law_c10 6
theorem d_Law_law_502 : decode (jm_cod M_Law_law) 502 = .ok (.lcmp, 1) := dt_Law_law_c10 7
theorem d_Law_law_503 : decode (jm_cod M_Law_law) 503 = .ok (.ifCond .eq 5, 3) := dt_Law_law_c10 8
theorem d_Law_law_506 : decode (jm_cod M_Law_law) 506 = .ok (.iconst 0, 1) := dt_Law_law_c10 9
theorem d_Law_law_507 : decode (jm_cod M_Law_law) 507 = .ok (.ireturn, 1) := dt_Law_law_c10 10
theorem d_Law_law_508 : decode (jm_cod M_Law_law) 508 = .ok (.goto 1513, 3) := dt_Law_law_c10 11
theorem d_Law_law_511 : decode (jm_cod M_Law_law) 511 = .ok (.aload_n 1, 1) := dt_Law_law_c10 12
theorem d_Law_law_512 : decode (jm_cod M_Law_law) 512 = .ok (.aload_n 0, 1) := dt_Law_law_c10 13
theorem d_Law_law_513 : decode (jm_cod M_Law_law) 513 = .ok (.iload 4, 2) := dt_Law_law_c10 14
theorem d_Law_law_515 : decode (jm_cod M_Law_law) 515 = .ok (.iconst 1, 1) := dt_Law_law_c10 15
theorem d_Law_law_516 : decode (jm_cod M_Law_law) 516 = .ok (.iadd, 1) := dt_Law_law_c10 16
theorem d_Law_law_517 : decode (jm_cod M_Law_law) 517 = .ok (.iaload, 1) := dt_Law_law_c10 17
theorem d_Law_law_518 : decode (jm_cod M_Law_law) 518 = .ok (.aload_n 0, 1) := dt_Law_law_c10 18
theorem d_Law_law_519 : decode (jm_cod M_Law_law) 519 = .ok (.iload 4, 2) := dt_Law_law_c10 19
theorem d_Law_law_521 : decode (jm_cod M_Law_law) 521 = .ok (.iconst 2, 1) := dt_Law_law_c10 20
theorem d_Law_law_522 : decode (jm_cod M_Law_law) 522 = .ok (.iadd, 1) := dt_Law_law_c10 21
theorem d_Law_law_523 : decode (jm_cod M_Law_law) 523 = .ok (.iaload, 1) := dt_Law_law_c10 22
theorem d_Law_law_524 : decode (jm_cod M_Law_law) 524 = .ok (.aload_n 0, 1) := dt_Law_law_c10 23
def tab_Law_law_c11 : List (Nat × Instr × Nat) := [(525, .iload 4, 2), (527, .iconst 3, 1), (528, .iadd, 1), (529, .iaload, 1), (530, .aload_n 3, 1), (531, .invokestatic 132, 3), (534, .istore 5, 2), (536, .aload_n 2, 1), (537, .aload_n 0, 1), (538, .iload 4, 2), (540, .iconst 1, 1), (541, .iadd, 1), (542, .iaload, 1), (543, .aload_n 0, 1), (544, .iload 4, 2), (546, .iconst 2, 1), (547, .iadd, 1), (548, .iaload, 1), (549, .aload_n 0, 1), (550, .iload 4, 2), (552, .iconst 3, 1), (553, .iadd, 1), (554, .iaload, 1), (555, .invokevirtual 134, 3)]
theorem dt_Law_law_c11 (i : Nat) : decode (jm_cod M_Law_law) (tab_Law_law_c11.getD i (525, .iload 4, 2)).1 = .ok ((tab_Law_law_c11.getD i (525, .iload 4, 2)).2.1, (tab_Law_law_c11.getD i (525, .iload 4, 2)).2.2) := j_tab (by decide +kernel) i
theorem d_Law_law_525 : decode (jm_cod M_Law_law) 525 = .ok (.iload 4, 2) := dt_Law_law_c11 0
theorem d_Law_law_527 : decode (jm_cod M_Law_law) 527 = .ok (.iconst 3, 1) := dt_Law_law_c11 1
theorem d_Law_law_528 : decode (jm_cod M_Law_law) 528 = .ok (.iadd, 1) := dt_Law_law_c11 2
theorem d_Law_law_529 : decode (jm_cod M_Law_law) 529 = .ok (.iaload, 1) := dt_Law_law_c11 3
theorem d_Law_law_530 : decode (jm_cod M_Law_law) 530 = .ok (.aload_n 3, 1) := dt_Law_law_c11 4
theorem d_Law_law_531 : decode (jm_cod M_Law_law) 531 = .ok (.invokestatic 132, 3) := dt_Law_law_c11 5
theorem d_Law_law_534 : decode (jm_cod M_Law_law) 534 = .ok (.istore 5, 2) := dt_Law_law_c11 6
theorem d_Law_law_536 : decode (jm_cod M_Law_law) 536 = .ok (.aload_n 2, 1) := dt_Law_law_c11 7
theorem d_Law_law_537 : decode (jm_cod M_Law_law) 537 = .ok (.aload_n 0, 1) := dt_Law_law_c11 8
theorem d_Law_law_538 : decode (jm_cod M_Law_law) 538 = .ok (.iload 4, 2) := dt_Law_law_c11 9
theorem d_Law_law_540 : decode (jm_cod M_Law_law) 540 = .ok (.iconst 1, 1) := dt_Law_law_c11 10
theorem d_Law_law_541 : decode (jm_cod M_Law_law) 541 = .ok (.iadd, 1) := dt_Law_law_c11 11
theorem d_Law_law_542 : decode (jm_cod M_Law_law) 542 = .ok (.iaload, 1) := dt_Law_law_c11 12
theorem d_Law_law_543 : decode (jm_cod M_Law_law) 543 = .ok (.aload_n 0, 1) := dt_Law_law_c11 13
theorem d_Law_law_544 : decode (jm_cod M_Law_law) 544 = .ok (.iload 4, 2) := dt_Law_law_c11 14
theorem d_Law_law_546 : decode (jm_cod M_Law_law) 546 = .ok (.iconst 2, 1) := dt_Law_law_c11 15
theorem d_Law_law_547 : decode (jm_cod M_Law_law) 547 = .ok (.iadd, 1) := dt_Law_law_c11 16
theorem d_Law_law_548 : decode (jm_cod M_Law_law) 548 = .ok (.iaload, 1) := dt_Law_law_c11 17
theorem d_Law_law_549 : decode (jm_cod M_Law_law) 549 = .ok (.aload_n 0, 1) := dt_Law_law_c11 18
theorem d_Law_law_550 : decode (jm_cod M_Law_law) 550 = .ok (.iload 4, 2) := dt_Law_law_c11 19
theorem d_Law_law_552 : decode (jm_cod M_Law_law) 552 = .ok (.iconst 3, 1) := dt_Law_law_c11 20
theorem d_Law_law_553 : decode (jm_cod M_Law_law) 553 = .ok (.iadd, 1) := dt_Law_law_c11 21
theorem d_Law_law_554 : decode (jm_cod M_Law_law) 554 = .ok (.iaload, 1) := dt_Law_law_c11 22
theorem d_Law_law_555 : decode (jm_cod M_Law_law) 555 = .ok (.invokevirtual 134, 3) := dt_Law_law_c11 23
def tab_Law_law_c12 : List (Nat × Instr × Nat) := [(558, .istore 6, 2), (560, .aload_n 2, 1), (561, .invokevirtual 118, 3), (564, .iload 5, 2), (566, .if_icmp .eq 5, 3), (569, .iconst 0, 1), (570, .ireturn, 1), (571, .iload 5, 2), (573, .ifCond .ne 15, 3), (576, .aload_n 3, 1), (577, .iconst 0, 1), (578, .laload, 1), (579, .iload 6, 2), (581, .i2l, 1), (582, .lcmp, 1), (583, .ifCond .eq 5, 3), (586, .iconst 0, 1), (587, .ireturn, 1), (588, .goto 1433, 3), (591, .aload_n 1, 1), (592, .aload_n 0, 1), (593, .iload 4, 2), (595, .iconst 1, 1), (596, .iadd, 1)]
theorem dt_Law_law_c12 (i : Nat) : decode (jm_cod M_Law_law) (tab_Law_law_c12.getD i (558, .istore 6, 2)).1 = .ok ((tab_Law_law_c12.getD i (558, .istore 6, 2)).2.1, (tab_Law_law_c12.getD i (558, .istore 6, 2)).2.2) := j_tab (by decide +kernel) i
theorem d_Law_law_558 : decode (jm_cod M_Law_law) 558 = .ok (.istore 6, 2) := dt_Law_law_c12 0
theorem d_Law_law_560 : decode (jm_cod M_Law_law) 560 = .ok (.aload_n 2, 1) := dt_Law_law_c12 1
theorem d_Law_law_561 : decode (jm_cod M_Law_law) 561 = .ok (.invokevirtual 118, 3) := dt_Law_law_c12 2
theorem d_Law_law_564 : decode (jm_cod M_Law_law) 564 = .ok (.iload 5, 2) := dt_Law_law_c12 3
theorem d_Law_law_566 : decode (jm_cod M_Law_law) 566 = .ok (.if_icmp .eq 5, 3) := dt_Law_law_c12 4
theorem d_Law_law_569 : decode (jm_cod M_Law_law) 569 = .ok (.iconst 0, 1) := dt_Law_law_c12 5
theorem d_Law_law_570 : decode (jm_cod M_Law_law) 570 = .ok (.ireturn, 1) := dt_Law_law_c12 6
theorem d_Law_law_571 : decode (jm_cod M_Law_law) 571 = .ok (.iload 5, 2) := dt_Law_law_c12 7
theorem d_Law_law_573 : decode (jm_cod M_Law_law) 573 = .ok (.ifCond .ne 15, 3) := dt_Law_law_c12 8
theorem d_Law_law_576 : decode (jm_cod M_Law_law) 576 = .ok (.aload_n 3, 1) := dt_Law_law_c12 9
theorem d_Law_law_577 : decode (jm_cod M_Law_law) 577 = .ok (.iconst 0, 1) := dt_Law_law_c12 10
theorem d_Law_law_578 : decode (jm_cod M_Law_law) 578 = .ok (.laload, 1) := dt_Law_law_c12 11
theorem d_Law_law_579 : decode (jm_cod M_Law_law) 579 = .ok (.iload 6, 2) := dt_Law_law_c12 12
theorem d_Law_law_581 : decode (jm_cod M_Law_law) 581 = .ok (.i2l, 1) := dt_Law_law_c12 13
theorem d_Law_law_582 : decode (jm_cod M_Law_law) 582 = .ok (.lcmp, 1) := dt_Law_law_c12 14
theorem d_Law_law_583 : decode (jm_cod M_Law_law) 583 = .ok (.ifCond .eq 5, 3) := dt_Law_law_c12 15
theorem d_Law_law_586 : decode (jm_cod M_Law_law) 586 = .ok (.iconst 0, 1) := dt_Law_law_c12 16
theorem d_Law_law_587 : decode (jm_cod M_Law_law) 587 = .ok (.ireturn, 1) := dt_Law_law_c12 17
theorem d_Law_law_588 : decode (jm_cod M_Law_law) 588 = .ok (.goto 1433, 3) := dt_Law_law_c12 18
theorem d_Law_law_591 : decode (jm_cod M_Law_law) 591 = .ok (.aload_n 1, 1) := dt_Law_law_c12 19
theorem d_Law_law_592 : decode (jm_cod M_Law_law) 592 = .ok (.aload_n 0, 1) := dt_Law_law_c12 20
theorem d_Law_law_593 : decode (jm_cod M_Law_law) 593 = .ok (.iload 4, 2) := dt_Law_law_c12 21
theorem d_Law_law_595 : decode (jm_cod M_Law_law) 595 = .ok (.iconst 1, 1) := dt_Law_law_c12 22
theorem d_Law_law_596 : decode (jm_cod M_Law_law) 596 = .ok (.iadd, 1) := dt_Law_law_c12 23
def tab_Law_law_c13 : List (Nat × Instr × Nat) := [(597, .iaload, 1), (598, .aload_n 0, 1), (599, .iload 4, 2), (601, .iconst 2, 1), (602, .iadd, 1), (603, .iaload, 1), (604, .aload_n 0, 1), (605, .iload 4, 2), (607, .iconst 3, 1), (608, .iadd, 1), (609, .iaload, 1), (610, .aload_n 3, 1), (611, .invokestatic 135, 3), (614, .istore 5, 2), (616, .aload_n 2, 1), (617, .aload_n 0, 1), (618, .iload 4, 2), (620, .iconst 1, 1), (621, .iadd, 1), (622, .iaload, 1), (623, .aload_n 0, 1), (624, .iload 4, 2), (626, .iconst 2, 1), (627, .iadd, 1)]
theorem dt_Law_law_c13 (i : Nat) : decode (jm_cod M_Law_law) (tab_Law_law_c13.getD i (597, .iaload, 1)).1 = .ok ((tab_Law_law_c13.getD i (597, .iaload, 1)).2.1, (tab_Law_law_c13.getD i (597, .iaload, 1)).2.2) := j_tab (by decide +kernel) i
theorem d_Law_law_597 : decode (jm_cod M_Law_law) 597 = .ok (.iaload, 1) := dt_Law_law_c13 0
theorem d_Law_law_598 : decode (jm_cod M_Law_law) 598 = .ok (.aload_n 0, 1) := dt_Law_law_c13 1
theorem d_Law_law_599 : decode (jm_cod M_Law_law) 599 = .ok (.iload 4, 2) := dt_Law_law_c13 2
theorem d_Law_law_601 : decode (jm_cod M_Law_law) 601 = .ok (.iconst 2, 1) := dt_Law_law_c13 3
theorem d_Law_law_602 : decode (jm_cod M_Law_law) 602 = .ok (.iadd, 1) := dt_Law_law_c13 4
theorem d_Law_law_603 : decode (jm_cod M_Law_law) 603 = .ok (.iaload, 1) := dt_Law_law_c13 5
theorem d_Law_law_604 : decode (jm_cod M_Law_law) 604 = .ok (.aload_n 0, 1) := dt_Law_law_c13 6
theorem d_Law_law_605 : decode (jm_cod M_Law_law) 605 = .ok (.iload 4, 2) := dt_Law_law_c13 7
theorem d_Law_law_607 : decode (jm_cod M_Law_law) 607 = .ok (.iconst 3, 1) := dt_Law_law_c13 8
theorem d_Law_law_608 : decode (jm_cod M_Law_law) 608 = .ok (.iadd, 1) := dt_Law_law_c13 9
theorem d_Law_law_609 : decode (jm_cod M_Law_law) 609 = .ok (.iaload, 1) := dt_Law_law_c13 10
theorem d_Law_law_610 : decode (jm_cod M_Law_law) 610 = .ok (.aload_n 3, 1) := dt_Law_law_c13 11
theorem d_Law_law_611 : decode (jm_cod M_Law_law) 611 = .ok (.invokestatic 135, 3) := dt_Law_law_c13 12
theorem d_Law_law_614 : decode (jm_cod M_Law_law) 614 = .ok (.istore 5, 2) := dt_Law_law_c13 13
theorem d_Law_law_616 : decode (jm_cod M_Law_law) 616 = .ok (.aload_n 2, 1) := dt_Law_law_c13 14
theorem d_Law_law_617 : decode (jm_cod M_Law_law) 617 = .ok (.aload_n 0, 1) := dt_Law_law_c13 15
theorem d_Law_law_618 : decode (jm_cod M_Law_law) 618 = .ok (.iload 4, 2) := dt_Law_law_c13 16
theorem d_Law_law_620 : decode (jm_cod M_Law_law) 620 = .ok (.iconst 1, 1) := dt_Law_law_c13 17
theorem d_Law_law_621 : decode (jm_cod M_Law_law) 621 = .ok (.iadd, 1) := dt_Law_law_c13 18
theorem d_Law_law_622 : decode (jm_cod M_Law_law) 622 = .ok (.iaload, 1) := dt_Law_law_c13 19
theorem d_Law_law_623 : decode (jm_cod M_Law_law) 623 = .ok (.aload_n 0, 1) := dt_Law_law_c13 20
theorem d_Law_law_624 : decode (jm_cod M_Law_law) 624 = .ok (.iload 4, 2) := dt_Law_law_c13 21
theorem d_Law_law_626 : decode (jm_cod M_Law_law) 626 = .ok (.iconst 2, 1) := dt_Law_law_c13 22
theorem d_Law_law_627 : decode (jm_cod M_Law_law) 627 = .ok (.iadd, 1) := dt_Law_law_c13 23
def tab_Law_law_c14 : List (Nat × Instr × Nat) := [(628, .iaload, 1), (629, .aload_n 0, 1), (630, .iload 4, 2), (632, .iconst 3, 1), (633, .iadd, 1), (634, .iaload, 1), (635, .invokevirtual 137, 3), (638, .istore 6, 2), (640, .aload_n 2, 1), (641, .invokevirtual 118, 3), (644, .iload 5, 2), (646, .if_icmp .eq 5, 3), (649, .iconst 0, 1), (650, .ireturn, 1), (651, .iload 5, 2), (653, .ifCond .ne 15, 3), (656, .aload_n 3, 1), (657, .iconst 0, 1), (658, .laload, 1), (659, .iload 6, 2), (661, .i2l, 1), (662, .lcmp, 1), (663, .ifCond .eq 5, 3), (666, .iconst 0, 1)]
theorem dt_Law_law_c14 (i : Nat) : decode (jm_cod M_Law_law) (tab_Law_law_c14.getD i (628, .iaload, 1)).1 = .ok ((tab_Law_law_c14.getD i (628, .iaload, 1)).2.1, (tab_Law_law_c14.getD i (628, .iaload, 1)).2.2) := j_tab (by decide +kernel) i
theorem d_Law_law_628 : decode (jm_cod M_Law_law) 628 = .ok (.iaload, 1) := dt_Law_law_c14 0
theorem d_Law_law_629 : decode (jm_cod M_Law_law) 629 = .ok (.aload_n 0, 1) := dt_Law_law_c14 1
theorem d_Law_law_630 : decode (jm_cod M_Law_law) 630 = .ok (.iload 4, 2) := dt_Law_law_c14 2
theorem d_Law_law_632 : decode (jm_cod M_Law_law) 632 = .ok (.iconst 3, 1) := dt_Law_law_c14 3
theorem d_Law_law_633 : decode (jm_cod M_Law_law) 633 = .ok (.iadd, 1) := dt_Law_law_c14 4
theorem d_Law_law_634 : decode (jm_cod M_Law_law) 634 = .ok (.iaload, 1) := dt_Law_law_c14 5
theorem d_Law_law_635 : decode (jm_cod M_Law_law) 635 = .ok (.invokevirtual 137, 3) := dt_Law_law_c14 6
theorem d_Law_law_638 : decode (jm_cod M_Law_law) 638 = .ok (.istore 6, 2) := dt_Law_law_c14 7
theorem d_Law_law_640 : decode (jm_cod M_Law_law) 640 = .ok (.aload_n 2, 1) := dt_Law_law_c14 8
theorem d_Law_law_641 : decode (jm_cod M_Law_law) 641 = .ok (.invokevirtual 118, 3) := dt_Law_law_c14 9
theorem d_Law_law_644 : decode (jm_cod M_Law_law) 644 = .ok (.iload 5, 2) := dt_Law_law_c14 10
theorem d_Law_law_646 : decode (jm_cod M_Law_law) 646 = .ok (.if_icmp .eq 5, 3) := dt_Law_law_c14 11
theorem d_Law_law_649 : decode (jm_cod M_Law_law) 649 = .ok (.iconst 0, 1) := dt_Law_law_c14 12
theorem d_Law_law_650 : decode (jm_cod M_Law_law) 650 = .ok (.ireturn, 1) := dt_Law_law_c14 13
theorem d_Law_law_651 : decode (jm_cod M_Law_law) 651 = .ok (.iload 5, 2) := dt_Law_law_c14 14
theorem d_Law_law_653 : decode (jm_cod M_Law_law) 653 = .ok (.ifCond .ne 15, 3) := dt_Law_law_c14 15
theorem d_Law_law_656 : decode (jm_cod M_Law_law) 656 = .ok (.aload_n 3, 1) := dt_Law_law_c14 16
theorem d_Law_law_657 : decode (jm_cod M_Law_law) 657 = .ok (.iconst 0, 1) := dt_Law_law_c14 17
theorem d_Law_law_658 : decode (jm_cod M_Law_law) 658 = .ok (.laload, 1) := dt_Law_law_c14 18
theorem d_Law_law_659 : decode (jm_cod M_Law_law) 659 = .ok (.iload 6, 2) := dt_Law_law_c14 19
theorem d_Law_law_661 : decode (jm_cod M_Law_law) 661 = .ok (.i2l, 1) := dt_Law_law_c14 20
theorem d_Law_law_662 : decode (jm_cod M_Law_law) 662 = .ok (.lcmp, 1) := dt_Law_law_c14 21
theorem d_Law_law_663 : decode (jm_cod M_Law_law) 663 = .ok (.ifCond .eq 5, 3) := dt_Law_law_c14 22
theorem d_Law_law_666 : decode (jm_cod M_Law_law) 666 = .ok (.iconst 0, 1) := dt_Law_law_c14 23
def tab_Law_law_c15 : List (Nat × Instr × Nat) := [(667, .ireturn, 1), (668, .goto 1353, 3), (671, .aload_n 1, 1), (672, .aload_n 0, 1), (673, .iload 4, 2), (675, .iconst 1, 1), (676, .iadd, 1), (677, .iaload, 1), (678, .aload_n 0, 1), (679, .iload 4, 2), (681, .iconst 2, 1), (682, .iadd, 1), (683, .iaload, 1), (684, .aload_n 0, 1), (685, .iload 4, 2), (687, .iconst 3, 1), (688, .iadd, 1), (689, .iaload, 1), (690, .ifCond .eq 7, 3), (693, .iconst 1, 1), (694, .goto 4, 3), (697, .iconst 0, 1), (698, .aload_n 3, 1), (699, .invokestatic 138, 3)]
theorem dt_Law_law_c15 (i : Nat) : decode (jm_cod M_Law_law) (tab_Law_law_c15.getD i (667, .ireturn, 1)).1 = .ok ((tab_Law_law_c15.getD i (667, .ireturn, 1)).2.1, (tab_Law_law_c15.getD i (667, .ireturn, 1)).2.2) := j_tab (by decide +kernel) i
theorem d_Law_law_667 : decode (jm_cod M_Law_law) 667 = .ok (.ireturn, 1) := dt_Law_law_c15 0
theorem d_Law_law_668 : decode (jm_cod M_Law_law) 668 = .ok (.goto 1353, 3) := dt_Law_law_c15 1
theorem d_Law_law_671 : decode (jm_cod M_Law_law) 671 = .ok (.aload_n 1, 1) := dt_Law_law_c15 2
theorem d_Law_law_672 : decode (jm_cod M_Law_law) 672 = .ok (.aload_n 0, 1) := dt_Law_law_c15 3
theorem d_Law_law_673 : decode (jm_cod M_Law_law) 673 = .ok (.iload 4, 2) := dt_Law_law_c15 4
theorem d_Law_law_675 : decode (jm_cod M_Law_law) 675 = .ok (.iconst 1, 1) := dt_Law_law_c15 5
theorem d_Law_law_676 : decode (jm_cod M_Law_law) 676 = .ok (.iadd, 1) := dt_Law_law_c15 6
theorem d_Law_law_677 : decode (jm_cod M_Law_law) 677 = .ok (.iaload, 1) := dt_Law_law_c15 7
theorem d_Law_law_678 : decode (jm_cod M_Law_law) 678 = .ok (.aload_n 0, 1) := dt_Law_law_c15 8
theorem d_Law_law_679 : decode (jm_cod M_Law_law) 679 = .ok (.iload 4, 2) := dt_Law_law_c15 9
theorem d_Law_law_681 : decode (jm_cod M_Law_law) 681 = .ok (.iconst 2, 1) := dt_Law_law_c15 10
theorem d_Law_law_682 : decode (jm_cod M_Law_law) 682 = .ok (.iadd, 1) := dt_Law_law_c15 11
theorem d_Law_law_683 : decode (jm_cod M_Law_law) 683 = .ok (.iaload, 1) := dt_Law_law_c15 12
theorem d_Law_law_684 : decode (jm_cod M_Law_law) 684 = .ok (.aload_n 0, 1) := dt_Law_law_c15 13
theorem d_Law_law_685 : decode (jm_cod M_Law_law) 685 = .ok (.iload 4, 2) := dt_Law_law_c15 14
theorem d_Law_law_687 : decode (jm_cod M_Law_law) 687 = .ok (.iconst 3, 1) := dt_Law_law_c15 15
theorem d_Law_law_688 : decode (jm_cod M_Law_law) 688 = .ok (.iadd, 1) := dt_Law_law_c15 16
theorem d_Law_law_689 : decode (jm_cod M_Law_law) 689 = .ok (.iaload, 1) := dt_Law_law_c15 17
theorem d_Law_law_690 : decode (jm_cod M_Law_law) 690 = .ok (.ifCond .eq 7, 3) := dt_Law_law_c15 18
theorem d_Law_law_693 : decode (jm_cod M_Law_law) 693 = .ok (.iconst 1, 1) := dt_Law_law_c15 19
theorem d_Law_law_694 : decode (jm_cod M_Law_law) 694 = .ok (.goto 4, 3) := dt_Law_law_c15 20
theorem d_Law_law_697 : decode (jm_cod M_Law_law) 697 = .ok (.iconst 0, 1) := dt_Law_law_c15 21
theorem d_Law_law_698 : decode (jm_cod M_Law_law) 698 = .ok (.aload_n 3, 1) := dt_Law_law_c15 22
theorem d_Law_law_699 : decode (jm_cod M_Law_law) 699 = .ok (.invokestatic 138, 3) := dt_Law_law_c15 23
def tab_Law_law_c16 : List (Nat × Instr × Nat) := [(702, .istore 5, 2), (704, .aload_n 2, 1), (705, .aload_n 0, 1), (706, .iload 4, 2), (708, .iconst 1, 1), (709, .iadd, 1), (710, .iaload, 1), (711, .aload_n 0, 1), (712, .iload 4, 2), (714, .iconst 2, 1), (715, .iadd, 1), (716, .iaload, 1), (717, .aload_n 0, 1), (718, .iload 4, 2), (720, .iconst 3, 1), (721, .iadd, 1), (722, .iaload, 1), (723, .ifCond .eq 7, 3), (726, .iconst 1, 1), (727, .goto 4, 3), (730, .iconst 0, 1), (731, .invokevirtual 141, 3), (734, .istore 6, 2), (736, .aload_n 2, 1)]
theorem dt_Law_law_c16 (i : Nat) : decode (jm_cod M_Law_law) (tab_Law_law_c16.getD i (702, .istore 5, 2)).1 = .ok ((tab_Law_law_c16.getD i (702, .istore 5, 2)).2.1, (tab_Law_law_c16.getD i (702, .istore 5, 2)).2.2) := j_tab (by decide +kernel) i
theorem d_Law_law_702 : decode (jm_cod M_Law_law) 702 = .ok (.istore 5, 2) := dt_Law_law_c16 0
theorem d_Law_law_704 : decode (jm_cod M_Law_law) 704 = .ok (.aload_n 2, 1) := dt_Law_law_c16 1
theorem d_Law_law_705 : decode (jm_cod M_Law_law) 705 = .ok (.aload_n 0, 1) := dt_Law_law_c16 2
theorem d_Law_law_706 : decode (jm_cod M_Law_law) 706 = .ok (.iload 4, 2) := dt_Law_law_c16 3
theorem d_Law_law_708 : decode (jm_cod M_Law_law) 708 = .ok (.iconst 1, 1) := dt_Law_law_c16 4
theorem d_Law_law_709 : decode (jm_cod M_Law_law) 709 = .ok (.iadd, 1) := dt_Law_law_c16 5
theorem d_Law_law_710 : decode (jm_cod M_Law_law) 710 = .ok (.iaload, 1) := dt_Law_law_c16 6
theorem d_Law_law_711 : decode (jm_cod M_Law_law) 711 = .ok (.aload_n 0, 1) := dt_Law_law_c16 7
theorem d_Law_law_712 : decode (jm_cod M_Law_law) 712 = .ok (.iload 4, 2) := dt_Law_law_c16 8
theorem d_Law_law_714 : decode (jm_cod M_Law_law) 714 = .ok (.iconst 2, 1) := dt_Law_law_c16 9
theorem d_Law_law_715 : decode (jm_cod M_Law_law) 715 = .ok (.iadd, 1) := dt_Law_law_c16 10
theorem d_Law_law_716 : decode (jm_cod M_Law_law) 716 = .ok (.iaload, 1) := dt_Law_law_c16 11
theorem d_Law_law_717 : decode (jm_cod M_Law_law) 717 = .ok (.aload_n 0, 1) := dt_Law_law_c16 12
theorem d_Law_law_718 : decode (jm_cod M_Law_law) 718 = .ok (.iload 4, 2) := dt_Law_law_c16 13
theorem d_Law_law_720 : decode (jm_cod M_Law_law) 720 = .ok (.iconst 3, 1) := dt_Law_law_c16 14
theorem d_Law_law_721 : decode (jm_cod M_Law_law) 721 = .ok (.iadd, 1) := dt_Law_law_c16 15
theorem d_Law_law_722 : decode (jm_cod M_Law_law) 722 = .ok (.iaload, 1) := dt_Law_law_c16 16
theorem d_Law_law_723 : decode (jm_cod M_Law_law) 723 = .ok (.ifCond .eq 7, 3) := dt_Law_law_c16 17
theorem d_Law_law_726 : decode (jm_cod M_Law_law) 726 = .ok (.iconst 1, 1) := dt_Law_law_c16 18
theorem d_Law_law_727 : decode (jm_cod M_Law_law) 727 = .ok (.goto 4, 3) := dt_Law_law_c16 19
theorem d_Law_law_730 : decode (jm_cod M_Law_law) 730 = .ok (.iconst 0, 1) := dt_Law_law_c16 20
theorem d_Law_law_731 : decode (jm_cod M_Law_law) 731 = .ok (.invokevirtual 141, 3) := dt_Law_law_c16 21
theorem d_Law_law_734 : decode (jm_cod M_Law_law) 734 = .ok (.istore 6, 2) := dt_Law_law_c16 22
theorem d_Law_law_736 : decode (jm_cod M_Law_law) 736 = .ok (.aload_n 2, 1) := dt_Law_law_c16 23
def tab_Law_law_c17 : List (Nat × Instr × Nat) := [(737, .invokevirtual 118, 3), (740, .iload 5, 2), (742, .if_icmp .eq 5, 3), (745, .iconst 0, 1), (746, .ireturn, 1), (747, .iload 5, 2), (749, .ifCond .ne 15, 3), (752, .aload_n 3, 1), (753, .iconst 0, 1), (754, .laload, 1), (755, .iload 6, 2), (757, .i2l, 1), (758, .lcmp, 1), (759, .ifCond .eq 5, 3), (762, .iconst 0, 1), (763, .ireturn, 1), (764, .goto 1257, 3), (767, .aload_n 1, 1), (768, .aload_n 0, 1), (769, .iload 4, 2), (771, .iconst 1, 1), (772, .iadd, 1), (773, .iaload, 1), (774, .aload_n 0, 1)]
theorem dt_Law_law_c17 (i : Nat) : decode (jm_cod M_Law_law) (tab_Law_law_c17.getD i (737, .invokevirtual 118, 3)).1 = .ok ((tab_Law_law_c17.getD i (737, .invokevirtual 118, 3)).2.1, (tab_Law_law_c17.getD i (737, .invokevirtual 118, 3)).2.2) := j_tab (by decide +kernel) i
theorem d_Law_law_737 : decode (jm_cod M_Law_law) 737 = .ok (.invokevirtual 118, 3) := dt_Law_law_c17 0
theorem d_Law_law_740 : decode (jm_cod M_Law_law) 740 = .ok (.iload 5, 2) := dt_Law_law_c17 1
theorem d_Law_law_742 : decode (jm_cod M_Law_law) 742 = .ok (.if_icmp .eq 5, 3) := dt_Law_law_c17 2
theorem d_Law_law_745 : decode (jm_cod M_Law_law) 745 = .ok (.iconst 0, 1) := dt_Law_law_c17 3
theorem d_Law_law_746 : decode (jm_cod M_Law_law) 746 = .ok (.ireturn, 1) := dt_Law_law_c17 4
theorem d_Law_law_747 : decode (jm_cod M_Law_law) 747 = .ok (.iload 5, 2) := dt_Law_law_c17 5
theorem d_Law_law_749 : decode (jm_cod M_Law_law) 749 = .ok (.ifCond .ne 15, 3) := dt_Law_law_c17 6
theorem d_Law_law_752 : decode (jm_cod M_Law_law) 752 = .ok (.aload_n 3, 1) := dt_Law_law_c17 7
theorem d_Law_law_753 : decode (jm_cod M_Law_law) 753 = .ok (.iconst 0, 1) := dt_Law_law_c17 8
theorem d_Law_law_754 : decode (jm_cod M_Law_law) 754 = .ok (.laload, 1) := dt_Law_law_c17 9
theorem d_Law_law_755 : decode (jm_cod M_Law_law) 755 = .ok (.iload 6, 2) := dt_Law_law_c17 10
theorem d_Law_law_757 : decode (jm_cod M_Law_law) 757 = .ok (.i2l, 1) := dt_Law_law_c17 11
theorem d_Law_law_758 : decode (jm_cod M_Law_law) 758 = .ok (.lcmp, 1) := dt_Law_law_c17 12
theorem d_Law_law_759 : decode (jm_cod M_Law_law) 759 = .ok (.ifCond .eq 5, 3) := dt_Law_law_c17 13
theorem d_Law_law_762 : decode (jm_cod M_Law_law) 762 = .ok (.iconst 0, 1) := dt_Law_law_c17 14
theorem d_Law_law_763 : decode (jm_cod M_Law_law) 763 = .ok (.ireturn, 1) := dt_Law_law_c17 15
theorem d_Law_law_764 : decode (jm_cod M_Law_law) 764 = .ok (.goto 1257, 3) := dt_Law_law_c17 16
theorem d_Law_law_767 : decode (jm_cod M_Law_law) 767 = .ok (.aload_n 1, 1) := dt_Law_law_c17 17
theorem d_Law_law_768 : decode (jm_cod M_Law_law) 768 = .ok (.aload_n 0, 1) := dt_Law_law_c17 18
theorem d_Law_law_769 : decode (jm_cod M_Law_law) 769 = .ok (.iload 4, 2) := dt_Law_law_c17 19
theorem d_Law_law_771 : decode (jm_cod M_Law_law) 771 = .ok (.iconst 1, 1) := dt_Law_law_c17 20
theorem d_Law_law_772 : decode (jm_cod M_Law_law) 772 = .ok (.iadd, 1) := dt_Law_law_c17 21
theorem d_Law_law_773 : decode (jm_cod M_Law_law) 773 = .ok (.iaload, 1) := dt_Law_law_c17 22
theorem d_Law_law_774 : decode (jm_cod M_Law_law) 774 = .ok (.aload_n 0, 1) := dt_Law_law_c17 23
def tab_Law_law_c18 : List (Nat × Instr × Nat) := [(775, .iload 4, 2), (777, .iconst 2, 1), (778, .iadd, 1), (779, .iaload, 1), (780, .aload_n 3, 1), (781, .invokestatic 142, 3), (784, .istore 5, 2), (786, .aload_n 2, 1), (787, .aload_n 0, 1), (788, .iload 4, 2), (790, .iconst 1, 1), (791, .iadd, 1), (792, .iaload, 1), (793, .aload_n 0, 1), (794, .iload 4, 2), (796, .iconst 2, 1), (797, .iadd, 1), (798, .iaload, 1), (799, .invokevirtual 144, 3), (802, .istore 6, 2), (804, .aload_n 2, 1), (805, .invokevirtual 118, 3), (808, .iload 5, 2), (810, .if_icmp .eq 5, 3)]
theorem dt_Law_law_c18 (i : Nat) : decode (jm_cod M_Law_law) (tab_Law_law_c18.getD i (775, .iload 4, 2)).1 = .ok ((tab_Law_law_c18.getD i (775, .iload 4, 2)).2.1, (tab_Law_law_c18.getD i (775, .iload 4, 2)).2.2) := j_tab (by decide +kernel) i
theorem d_Law_law_775 : decode (jm_cod M_Law_law) 775 = .ok (.iload 4, 2) := dt_Law_law_c18 0
theorem d_Law_law_777 : decode (jm_cod M_Law_law) 777 = .ok (.iconst 2, 1) := dt_Law_law_c18 1
theorem d_Law_law_778 : decode (jm_cod M_Law_law) 778 = .ok (.iadd, 1) := dt_Law_law_c18 2
theorem d_Law_law_779 : decode (jm_cod M_Law_law) 779 = .ok (.iaload, 1) := dt_Law_law_c18 3
theorem d_Law_law_780 : decode (jm_cod M_Law_law) 780 = .ok (.aload_n 3, 1) := dt_Law_law_c18 4
theorem d_Law_law_781 : decode (jm_cod M_Law_law) 781 = .ok (.invokestatic 142, 3) := dt_Law_law_c18 5
theorem d_Law_law_784 : decode (jm_cod M_Law_law) 784 = .ok (.istore 5, 2) := dt_Law_law_c18 6
theorem d_Law_law_786 : decode (jm_cod M_Law_law) 786 = .ok (.aload_n 2, 1) := dt_Law_law_c18 7
theorem d_Law_law_787 : decode (jm_cod M_Law_law) 787 = .ok (.aload_n 0, 1) := dt_Law_law_c18 8
theorem d_Law_law_788 : decode (jm_cod M_Law_law) 788 = .ok (.iload 4, 2) := dt_Law_law_c18 9
theorem d_Law_law_790 : decode (jm_cod M_Law_law) 790 = .ok (.iconst 1, 1) := dt_Law_law_c18 10
theorem d_Law_law_791 : decode (jm_cod M_Law_law) 791 = .ok (.iadd, 1) := dt_Law_law_c18 11
theorem d_Law_law_792 : decode (jm_cod M_Law_law) 792 = .ok (.iaload, 1) := dt_Law_law_c18 12
theorem d_Law_law_793 : decode (jm_cod M_Law_law) 793 = .ok (.aload_n 0, 1) := dt_Law_law_c18 13
theorem d_Law_law_794 : decode (jm_cod M_Law_law) 794 = .ok (.iload 4, 2) := dt_Law_law_c18 14
theorem d_Law_law_796 : decode (jm_cod M_Law_law) 796 = .ok (.iconst 2, 1) := dt_Law_law_c18 15
theorem d_Law_law_797 : decode (jm_cod M_Law_law) 797 = .ok (.iadd, 1) := dt_Law_law_c18 16
theorem d_Law_law_798 : decode (jm_cod M_Law_law) 798 = .ok (.iaload, 1) := dt_Law_law_c18 17
theorem d_Law_law_799 : decode (jm_cod M_Law_law) 799 = .ok (.invokevirtual 144, 3) := dt_Law_law_c18 18
theorem d_Law_law_802 : decode (jm_cod M_Law_law) 802 = .ok (.istore 6, 2) := dt_Law_law_c18 19
theorem d_Law_law_804 : decode (jm_cod M_Law_law) 804 = .ok (.aload_n 2, 1) := dt_Law_law_c18 20
theorem d_Law_law_805 : decode (jm_cod M_Law_law) 805 = .ok (.invokevirtual 118, 3) := dt_Law_law_c18 21
theorem d_Law_law_808 : decode (jm_cod M_Law_law) 808 = .ok (.iload 5, 2) := dt_Law_law_c18 22
theorem d_Law_law_810 : decode (jm_cod M_Law_law) 810 = .ok (.if_icmp .eq 5, 3) := dt_Law_law_c18 23
def tab_Law_law_c19 : List (Nat × Instr × Nat) := [(813, .iconst 0, 1), (814, .ireturn, 1), (815, .iload 5, 2), (817, .ifCond .ne 15, 3), (820, .aload_n 3, 1), (821, .iconst 0, 1), (822, .laload, 1), (823, .iload 6, 2), (825, .i2l, 1), (826, .lcmp, 1), (827, .ifCond .eq 5, 3), (830, .iconst 0, 1), (831, .ireturn, 1), (832, .goto 1189, 3), (835, .aload_n 1, 1), (836, .aload_n 0, 1), (837, .iload 4, 2), (839, .iconst 1, 1), (840, .iadd, 1), (841, .iaload, 1), (842, .aload_n 3, 1), (843, .invokestatic 145, 3), (846, .istore 5, 2), (848, .aload_n 2, 1)]
theorem dt_Law_law_c19 (i : Nat) : decode (jm_cod M_Law_law) (tab_Law_law_c19.getD i (813, .iconst 0, 1)).1 = .ok ((tab_Law_law_c19.getD i (813, .iconst 0, 1)).2.1, (tab_Law_law_c19.getD i (813, .iconst 0, 1)).2.2) := j_tab (by decide +kernel) i
theorem d_Law_law_813 : decode (jm_cod M_Law_law) 813 = .ok (.iconst 0, 1) := dt_Law_law_c19 0
theorem d_Law_law_814 : decode (jm_cod M_Law_law) 814 = .ok (.ireturn, 1) := dt_Law_law_c19 1
theorem d_Law_law_815 : decode (jm_cod M_Law_law) 815 = .ok (.iload 5, 2) := dt_Law_law_c19 2
theorem d_Law_law_817 : decode (jm_cod M_Law_law) 817 = .ok (.ifCond .ne 15, 3) := dt_Law_law_c19 3
theorem d_Law_law_820 : decode (jm_cod M_Law_law) 820 = .ok (.aload_n 3, 1) := dt_Law_law_c19 4
theorem d_Law_law_821 : decode (jm_cod M_Law_law) 821 = .ok (.iconst 0, 1) := dt_Law_law_c19 5
theorem d_Law_law_822 : decode (jm_cod M_Law_law) 822 = .ok (.laload, 1) := dt_Law_law_c19 6
theorem d_Law_law_823 : decode (jm_cod M_Law_law) 823 = .ok (.iload 6, 2) := dt_Law_law_c19 7
theorem d_Law_law_825 : decode (jm_cod M_Law_law) 825 = .ok (.i2l, 1) := dt_Law_law_c19 8
theorem d_Law_law_826 : decode (jm_cod M_Law_law) 826 = .ok (.lcmp, 1) := dt_Law_law_c19 9
theorem d_Law_law_827 : decode (jm_cod M_Law_law) 827 = .ok (.ifCond .eq 5, 3) := dt_Law_law_c19 10
theorem d_Law_law_830 : decode (jm_cod M_Law_law) 830 = .ok (.iconst 0, 1) := dt_Law_law_c19 11
theorem d_Law_law_831 : decode (jm_cod M_Law_law) 831 = .ok (.ireturn, 1) := dt_Law_law_c19 12
theorem d_Law_law_832 : decode (jm_cod M_Law_law) 832 = .ok (.goto 1189, 3) := dt_Law_law_c19 13
theorem d_Law_law_835 : decode (jm_cod M_Law_law) 835 = .ok (.aload_n 1, 1) := dt_Law_law_c19 14
theorem d_Law_law_836 : decode (jm_cod M_Law_law) 836 = .ok (.aload_n 0, 1) := dt_Law_law_c19 15
theorem d_Law_law_837 : decode (jm_cod M_Law_law) 837 = .ok (.iload 4, 2) := dt_Law_law_c19 16
theorem d_Law_law_839 : decode (jm_cod M_Law_law) 839 = .ok (.iconst 1, 1) := dt_Law_law_c19 17
theorem d_Law_law_840 : decode (jm_cod M_Law_law) 840 = .ok (.iadd, 1) := dt_Law_law_c19 18
theorem d_Law_law_841 : decode (jm_cod M_Law_law) 841 = .ok (.iaload, 1) := dt_Law_law_c19 19
theorem d_Law_law_842 : decode (jm_cod M_Law_law) 842 = .ok (.aload_n 3, 1) := dt_Law_law_c19 20
theorem d_Law_law_843 : decode (jm_cod M_Law_law) 843 = .ok (.invokestatic 145, 3) := dt_Law_law_c19 21
theorem d_Law_law_846 : decode (jm_cod M_Law_law) 846 = .ok (.istore 5, 2) := dt_Law_law_c19 22
theorem d_Law_law_848 : decode (jm_cod M_Law_law) 848 = .ok (.aload_n 2, 1) := dt_Law_law_c19 23
def tab_Law_law_c20 : List (Nat × Instr × Nat) := [(849, .aload_n 0, 1), (850, .iload 4, 2), (852, .iconst 1, 1), (853, .iadd, 1), (854, .iaload, 1), (855, .invokevirtual 148, 3), (858, .istore 6, 2), (860, .aload_n 2, 1), (861, .invokevirtual 118, 3), (864, .iload 5, 2), (866, .if_icmp .eq 5, 3), (869, .iconst 0, 1), (870, .ireturn, 1), (871, .iload 5, 2), (873, .ifCond .ne 15, 3), (876, .aload_n 3, 1), (877, .iconst 0, 1), (878, .laload, 1), (879, .iload 6, 2), (881, .i2l, 1), (882, .lcmp, 1), (883, .ifCond .eq 5, 3), (886, .iconst 0, 1), (887, .ireturn, 1)]
theorem dt_Law_law_c20 (i : Nat) : decode (jm_cod M_Law_law) (tab_Law_law_c20.getD i (849, .aload_n 0, 1)).1 = .ok ((tab_Law_law_c20.getD i (849, .aload_n 0, 1)).2.1, (tab_Law_law_c20.getD i (849, .aload_n 0, 1)).2.2) := j_tab (by decide +kernel) i
theorem d_Law_law_849 : decode (jm_cod M_Law_law) 849 = .ok (.aload_n 0, 1) := dt_Law_law_c20 0
theorem d_Law_law_850 : decode (jm_cod M_Law_law) 850 = .ok (.iload 4, 2) := dt_Law_law_c20 1
theorem d_Law_law_852 : decode (jm_cod M_Law_law) 852 = .ok (.iconst 1, 1) := dt_Law_law_c20 2
theorem d_Law_law_853 : decode (jm_cod M_Law_law) 853 = .ok (.iadd, 1) := dt_Law_law_c20 3
theorem d_Law_law_854 : decode (jm_cod M_Law_law) 854 = .ok (.iaload, 1) := dt_Law_law_c20 4
theorem d_Law_law_855 : decode (jm_cod M_Law_law) 855 = .ok (.invokevirtual 148, 3) := dt_Law_law_c20 5
theorem d_Law_law_858 : decode (jm_cod M_Law_law) 858 = .ok (.istore 6, 2) := dt_Law_law_c20 6
theorem d_Law_law_860 : decode (jm_cod M_Law_law) 860 = .ok (.aload_n 2, 1) := dt_Law_law_c20 7
theorem d_Law_law_861 : decode (jm_cod M_Law_law) 861 = .ok (.invokevirtual 118, 3) := dt_Law_law_c20 8
theorem d_Law_law_864 : decode (jm_cod M_Law_law) 864 = .ok (.iload 5, 2) := dt_Law_law_c20 9
theorem d_Law_law_866 : decode (jm_cod M_Law_law) 866 = .ok (.if_icmp .eq 5, 3) := dt_Law_law_c20 10
theorem d_Law_law_869 : decode (jm_cod M_Law_law) 869 = .ok (.iconst 0, 1) := dt_Law_law_c20 11
theorem d_Law_law_870 : decode (jm_cod M_Law_law) 870 = .ok (.ireturn, 1) := dt_Law_law_c20 12
theorem d_Law_law_871 : decode (jm_cod M_Law_law) 871 = .ok (.iload 5, 2) := dt_Law_law_c20 13
theorem d_Law_law_873 : decode (jm_cod M_Law_law) 873 = .ok (.ifCond .ne 15, 3) := dt_Law_law_c20 14
theorem d_Law_law_876 : decode (jm_cod M_Law_law) 876 = .ok (.aload_n 3, 1) := dt_Law_law_c20 15
theorem d_Law_law_877 : decode (jm_cod M_Law_law) 877 = .ok (.iconst 0, 1) := dt_Law_law_c20 16
theorem d_Law_law_878 : decode (jm_cod M_Law_law) 878 = .ok (.laload, 1) := dt_Law_law_c20 17
theorem d_Law_law_879 : decode (jm_cod M_Law_law) 879 = .ok (.iload 6, 2) := dt_Law_law_c20 18
theorem d_Law_law_881 : decode (jm_cod M_Law_law) 881 = .ok (.i2l, 1) := dt_Law_law_c20 19
theorem d_Law_law_882 : decode (jm_cod M_Law_law) 882 = .ok (.lcmp, 1) := dt_Law_law_c20 20
theorem d_Law_law_883 : decode (jm_cod M_Law_law) 883 = .ok (.ifCond .eq 5, 3) := dt_Law_law_c20 21
theorem d_Law_law_886 : decode (jm_cod M_Law_law) 886 = .ok (.iconst 0, 1) := dt_Law_law_c20 22
theorem d_Law_law_887 : decode (jm_cod M_Law_law) 887 = .ok (.ireturn, 1) := dt_Law_law_c20 23
def tab_Law_law_c21 : List (Nat × Instr × Nat) := [(888, .goto 1133, 3), (891, .aload_n 1, 1), (892, .aload_n 0, 1), (893, .iload 4, 2), (895, .iconst 1, 1), (896, .iadd, 1), (897, .iaload, 1), (898, .aload_n 0, 1), (899, .iload 4, 2), (901, .iconst 2, 1), (902, .iadd, 1), (903, .iaload, 1), (904, .aload_n 0, 1), (905, .iload 4, 2), (907, .iconst 3, 1), (908, .iadd, 1), (909, .iaload, 1), (910, .aload_n 0, 1), (911, .iload 4, 2), (913, .iconst 4, 1), (914, .iadd, 1), (915, .iaload, 1), (916, .aload_n 0, 1), (917, .iload 4, 2)]
theorem dt_Law_law_c21 (i : Nat) : decode (jm_cod M_Law_law) (tab_Law_law_c21.getD i (888, .goto 1133, 3)).1 = .ok ((tab_Law_law_c21.getD i (888, .goto 1133, 3)).2.1, (tab_Law_law_c21.getD i (888, .goto 1133, 3)).2.2) := j_tab (by decide +kernel) i
theorem d_Law_law_888 : decode (jm_cod M_Law_law) 888 = .ok (.goto 1133, 3) := dt_Law_law_c21 0
theorem d_Law_law_891 : decode (jm_cod M_Law_law) 891 = .ok (.aload_n 1, 1) := dt_Law_law_c21 1
theorem d_Law_law_892 : decode (jm_cod M_Law_law) 892 = .ok (.aload_n 0, 1) := dt_Law_law_c21 2
theorem d_Law_law_893 : decode (jm_cod M_Law_law) 893 = .ok (.iload 4, 2) := dt_Law_law_c21 3
theorem d_Law_law_895 : decode (jm_cod M_Law_law) 895 = .ok (.iconst 1, 1) := dt_Law_law_c21 4
theorem d_Law_law_896 : decode (jm_cod M_Law_law) 896 = .ok (.iadd, 1) := dt_Law_law_c21 5
theorem d_Law_law_897 : decode (jm_cod M_Law_law) 897 = .ok (.iaload, 1) := dt_Law_law_c21 6
theorem d_Law_law_898 : decode (jm_cod M_Law_law) 898 = .ok (.aload_n 0, 1) := dt_Law_law_c21 7
theorem d_Law_law_899 : decode (jm_cod M_Law_law) 899 = .ok (.iload 4, 2) := dt_Law_law_c21 8
theorem d_Law_law_901 : decode (jm_cod M_Law_law) 901 = .ok (.iconst 2, 1) := dt_Law_law_c21 9
theorem d_Law_law_902 : decode (jm_cod M_Law_law) 902 = .ok (.iadd, 1) := dt_Law_law_c21 10
theorem d_Law_law_903 : decode (jm_cod M_Law_law) 903 = .ok (.iaload, 1) := dt_Law_law_c21 11
theorem d_Law_law_904 : decode (jm_cod M_Law_law) 904 = .ok (.aload_n 0, 1) := dt_Law_law_c21 12
theorem d_Law_law_905 : decode (jm_cod M_Law_law) 905 = .ok (.iload 4, 2) := dt_Law_law_c21 13
theorem d_Law_law_907 : decode (jm_cod M_Law_law) 907 = .ok (.iconst 3, 1) := dt_Law_law_c21 14
theorem d_Law_law_908 : decode (jm_cod M_Law_law) 908 = .ok (.iadd, 1) := dt_Law_law_c21 15
theorem d_Law_law_909 : decode (jm_cod M_Law_law) 909 = .ok (.iaload, 1) := dt_Law_law_c21 16
theorem d_Law_law_910 : decode (jm_cod M_Law_law) 910 = .ok (.aload_n 0, 1) := dt_Law_law_c21 17
theorem d_Law_law_911 : decode (jm_cod M_Law_law) 911 = .ok (.iload 4, 2) := dt_Law_law_c21 18
theorem d_Law_law_913 : decode (jm_cod M_Law_law) 913 = .ok (.iconst 4, 1) := dt_Law_law_c21 19
theorem d_Law_law_914 : decode (jm_cod M_Law_law) 914 = .ok (.iadd, 1) := dt_Law_law_c21 20
theorem d_Law_law_915 : decode (jm_cod M_Law_law) 915 = .ok (.iaload, 1) := dt_Law_law_c21 21
theorem d_Law_law_916 : decode (jm_cod M_Law_law) 916 = .ok (.aload_n 0, 1) := dt_Law_law_c21 22
theorem d_Law_law_917 : decode (jm_cod M_Law_law) 917 = .ok (.iload 4, 2) := dt_Law_law_c21 23
def tab_Law_law_c22 : List (Nat × Instr × Nat) := [(919, .iconst 5, 1), (920, .iadd, 1), (921, .iaload, 1), (922, .i2l, 1), (923, .bipush 32, 2), (925, .lshl, 1), (926, .aload_n 0, 1), (927, .iload 4, 2), (929, .bipush 6, 2), (931, .iadd, 1), (932, .iaload, 1), (933, .i2l, 1), (934, .ldc2_w 149, 3), (937, .land, 1), (938, .lor, 1), (939, .aload_n 3, 1), (940, .invokestatic 151, 3), (943, .istore 5, 2), (945, .aload_n 2, 1), (946, .aload_n 0, 1), (947, .iload 4, 2), (949, .iconst 1, 1), (950, .iadd, 1), (951, .iaload, 1)]
theorem dt_Law_law_c22 (i : Nat) : decode (jm_cod M_Law_law) (tab_Law_law_c22.getD i (919, .iconst 5, 1)).1 = .ok ((tab_Law_law_c22.getD i (919, .iconst 5, 1)).2.1, (tab_Law_law_c22.getD i (919, .iconst 5, 1)).2.2) := j_tab (by decide +kernel) i
theorem d_Law_law_919 : decode (jm_cod M_Law_law) 919 = .ok (.iconst 5, 1) := dt_Law_law_c22 0
theorem d_Law_law_920 : decode (jm_cod M_Law_law) 920 = .ok (.iadd, 1) := dt_Law_law_c22 1
theorem d_Law_law_921 : decode (jm_cod M_Law_law) 921 = .ok (.iaload, 1) := dt_Law_law_c22 2
theorem d_Law_law_922 : decode (jm_cod M_Law_law) 922 = .ok (.i2l, 1) := dt_Law_law_c22 3
theorem d_Law_law_923 : decode (jm_cod M_Law_law) 923 = .ok (.bipush 32, 2) := dt_Law_law_c22 4
theorem d_Law_law_925 : decode (jm_cod M_Law_law) 925 = .ok (.lshl, 1) := dt_Law_law_c22 5
theorem d_Law_law_926 : decode (jm_cod M_Law_law) 926 = .ok (.aload_n 0, 1) := dt_Law_law_c22 6
theorem d_Law_law_927 : decode (jm_cod M_Law_law) 927 = .ok (.iload 4, 2) := dt_Law_law_c22 7
theorem d_Law_law_929 : decode (jm_cod M_Law_law) 929 = .ok (.bipush 6, 2) := dt_Law_law_c22 8
theorem d_Law_law_931 : decode (jm_cod M_Law_law) 931 = .ok (.iadd, 1) := dt_Law_law_c22 9
theorem d_Law_law_932 : decode (jm_cod M_Law_law) 932 = .ok (.iaload, 1) := dt_Law_law_c22 10
theorem d_Law_law_933 : decode (jm_cod M_Law_law) 933 = .ok (.i2l, 1) := dt_Law_law_c22 11
theorem d_Law_law_934 : decode (jm_cod M_Law_law) 934 = .ok (.ldc2_w 149, 3) := dt_Law_law_c22 12
theorem d_Law_law_937 : decode (jm_cod M_Law_law) 937 = .ok (.land, 1) := dt_Law_law_c22 13
theorem d_Law_law_938 : decode (jm_cod M_Law_law) 938 = .ok (.lor, 1) := dt_Law_law_c22 14
theorem d_Law_law_939 : decode (jm_cod M_Law_law) 939 = .ok (.aload_n 3, 1) := dt_Law_law_c22 15
theorem d_Law_law_940 : decode (jm_cod M_Law_law) 940 = .ok (.invokestatic 151, 3) := dt_Law_law_c22 16
theorem d_Law_law_943 : decode (jm_cod M_Law_law) 943 = .ok (.istore 5, 2) := dt_Law_law_c22 17
theorem d_Law_law_945 : decode (jm_cod M_Law_law) 945 = .ok (.aload_n 2, 1) := dt_Law_law_c22 18
theorem d_Law_law_946 : decode (jm_cod M_Law_law) 946 = .ok (.aload_n 0, 1) := dt_Law_law_c22 19
theorem d_Law_law_947 : decode (jm_cod M_Law_law) 947 = .ok (.iload 4, 2) := dt_Law_law_c22 20
theorem d_Law_law_949 : decode (jm_cod M_Law_law) 949 = .ok (.iconst 1, 1) := dt_Law_law_c22 21
theorem d_Law_law_950 : decode (jm_cod M_Law_law) 950 = .ok (.iadd, 1) := dt_Law_law_c22 22
theorem d_Law_law_951 : decode (jm_cod M_Law_law) 951 = .ok (.iaload, 1) := dt_Law_law_c22 23
def tab_Law_law_c23 : List (Nat × Instr × Nat) := [(952, .aload_n 0, 1), (953, .iload 4, 2), (955, .iconst 2, 1), (956, .iadd, 1), (957, .iaload, 1), (958, .aload_n 0, 1), (959, .iload 4, 2), (961, .iconst 3, 1), (962, .iadd, 1), (963, .iaload, 1), (964, .aload_n 0, 1), (965, .iload 4, 2), (967, .iconst 4, 1), (968, .iadd, 1), (969, .iaload, 1), (970, .aload_n 0, 1), (971, .iload 4, 2), (973, .iconst 5, 1), (974, .iadd, 1), (975, .iaload, 1), (976, .i2l, 1), (977, .bipush 32, 2), (979, .lshl, 1), (980, .aload_n 0, 1)]
theorem dt_Law_law_c23 (i : Nat) : decode (jm_cod M_Law_law) (tab_Law_law_c23.getD i (952, .aload_n 0, 1)).1 = .ok ((tab_Law_law_c23.getD i (952, .aload_n 0, 1)).2.1, (tab_Law_law_c23.getD i (952, .aload_n 0, 1)).2.2) := j_tab (by decide +kernel) i
theorem d_Law_law_952 : decode (jm_cod M_Law_law) 952 = .ok (.aload_n 0, 1) := dt_Law_law_c23 0
theorem d_Law_law_953 : decode (jm_cod M_Law_law) 953 = .ok (.iload 4, 2) := dt_Law_law_c23 1
theorem d_Law_law_955 : decode (jm_cod M_Law_law) 955 = .ok (.iconst 2, 1) := dt_Law_law_c23 2
theorem d_Law_law_956 : decode (jm_cod M_Law_law) 956 = .ok (.iadd, 1) := dt_Law_law_c23 3
theorem d_Law_law_957 : decode (jm_cod M_Law_law) 957 = .ok (.iaload, 1) := dt_Law_law_c23 4
theorem d_Law_law_958 : decode (jm_cod M_Law_law) 958 = .ok (.aload_n 0, 1) := dt_Law_law_c23 5
theorem d_Law_law_959 : decode (jm_cod M_Law_law) 959 = .ok (.iload 4, 2) := dt_Law_law_c23 6
theorem d_Law_law_961 : decode (jm_cod M_Law_law) 961 = .ok (.iconst 3, 1) := dt_Law_law_c23 7
theorem d_Law_law_962 : decode (jm_cod M_Law_law) 962 = .ok (.iadd, 1) := dt_Law_law_c23 8
theorem d_Law_law_963 : decode (jm_cod M_Law_law) 963 = .ok (.iaload, 1) := dt_Law_law_c23 9
theorem d_Law_law_964 : decode (jm_cod M_Law_law) 964 = .ok (.aload_n 0, 1) := dt_Law_law_c23 10
theorem d_Law_law_965 : decode (jm_cod M_Law_law) 965 = .ok (.iload 4, 2) := dt_Law_law_c23 11
theorem d_Law_law_967 : decode (jm_cod M_Law_law) 967 = .ok (.iconst 4, 1) := dt_Law_law_c23 12
theorem d_Law_law_968 : decode (jm_cod M_Law_law) 968 = .ok (.iadd, 1) := dt_Law_law_c23 13
theorem d_Law_law_969 : decode (jm_cod M_Law_law) 969 = .ok (.iaload, 1) := dt_Law_law_c23 14
theorem d_Law_law_970 : decode (jm_cod M_Law_law) 970 = .ok (.aload_n 0, 1) := dt_Law_law_c23 15
theorem d_Law_law_971 : decode (jm_cod M_Law_law) 971 = .ok (.iload 4, 2) := dt_Law_law_c23 16
theorem d_Law_law_973 : decode (jm_cod M_Law_law) 973 = .ok (.iconst 5, 1) := dt_Law_law_c23 17
theorem d_Law_law_974 : decode (jm_cod M_Law_law) 974 = .ok (.iadd, 1) := dt_Law_law_c23 18
theorem d_Law_law_975 : decode (jm_cod M_Law_law) 975 = .ok (.iaload, 1) := dt_Law_law_c23 19
theorem d_Law_law_976 : decode (jm_cod M_Law_law) 976 = .ok (.i2l, 1) := dt_Law_law_c23 20
theorem d_Law_law_977 : decode (jm_cod M_Law_law) 977 = .ok (.bipush 32, 2) := dt_Law_law_c23 21
theorem d_Law_law_979 : decode (jm_cod M_Law_law) 979 = .ok (.lshl, 1) := dt_Law_law_c23 22
theorem d_Law_law_980 : decode (jm_cod M_Law_law) 980 = .ok (.aload_n 0, 1) := dt_Law_law_c23 23
def tab_Law_law_c24 : List (Nat × Instr × Nat) := [(981, .iload 4, 2), (983, .bipush 6, 2), (985, .iadd, 1), (986, .iaload, 1), (987, .i2l, 1), (988, .ldc2_w 149, 3), (991, .land, 1), (992, .lor, 1), (993, .invokevirtual 154, 3), (996, .istore 6, 2), (998, .aload_n 2, 1), (999, .invokevirtual 118, 3), (1002, .iload 5, 2), (1004, .if_icmp .eq 5, 3), (1007, .iconst 0, 1), (1008, .ireturn, 1), (1009, .iload 5, 2), (1011, .ifCond .ne 15, 3), (1014, .aload_n 3, 1), (1015, .iconst 0, 1), (1016, .laload, 1), (1017, .iload 6, 2), (1019, .i2l, 1), (1020, .lcmp, 1)]
theorem dt_Law_law_c24 (i : Nat) : decode (jm_cod M_Law_law) (tab_Law_law_c24.getD i (981, .iload 4, 2)).1 = .ok ((tab_Law_law_c24.getD i (981, .iload 4, 2)).2.1, (tab_Law_law_c24.getD i (981, .iload 4, 2)).2.2) := j_tab (by decide +kernel) i
theorem d_Law_law_981 : decode (jm_cod M_Law_law) 981 = .ok (.iload 4, 2) := dt_Law_law_c24 0
theorem d_Law_law_983 : decode (jm_cod M_Law_law) 983 = .ok (.bipush 6, 2) := dt_Law_law_c24 1
theorem d_Law_law_985 : decode (jm_cod M_Law_law) 985 = .ok (.iadd, 1) := dt_Law_law_c24 2
theorem d_Law_law_986 : decode (jm_cod M_Law_law) 986 = .ok (.iaload, 1) := dt_Law_law_c24 3
theorem d_Law_law_987 : decode (jm_cod M_Law_law) 987 = .ok (.i2l, 1) := dt_Law_law_c24 4
theorem d_Law_law_988 : decode (jm_cod M_Law_law) 988 = .ok (.ldc2_w 149, 3) := dt_Law_law_c24 5
theorem d_Law_law_991 : decode (jm_cod M_Law_law) 991 = .ok (.land, 1) := dt_Law_law_c24 6
theorem d_Law_law_992 : decode (jm_cod M_Law_law) 992 = .ok (.lor, 1) := dt_Law_law_c24 7
theorem d_Law_law_993 : decode (jm_cod M_Law_law) 993 = .ok (.invokevirtual 154, 3) := dt_Law_law_c24 8
theorem d_Law_law_996 : decode (jm_cod M_Law_law) 996 = .ok (.istore 6, 2) := dt_Law_law_c24 9
theorem d_Law_law_998 : decode (jm_cod M_Law_law) 998 = .ok (.aload_n 2, 1) := dt_Law_law_c24 10
theorem d_Law_law_999 : decode (jm_cod M_Law_law) 999 = .ok (.invokevirtual 118, 3) := dt_Law_law_c24 11
theorem d_Law_law_1002 : decode (jm_cod M_Law_law) 1002 = .ok (.iload 5, 2) := dt_Law_law_c24 12
theorem d_Law_law_1004 : decode (jm_cod M_Law_law) 1004 = .ok (.if_icmp .eq 5, 3) := dt_Law_law_c24 13
theorem d_Law_law_1007 : decode (jm_cod M_Law_law) 1007 = .ok (.iconst 0, 1) := dt_Law_law_c24 14
theorem d_Law_law_1008 : decode (jm_cod M_Law_law) 1008 = .ok (.ireturn, 1) := dt_Law_law_c24 15
theorem d_Law_law_1009 : decode (jm_cod M_Law_law) 1009 = .ok (.iload 5, 2) := dt_Law_law_c24 16
theorem d_Law_law_1011 : decode (jm_cod M_Law_law) 1011 = .ok (.ifCond .ne 15, 3) := dt_Law_law_c24 17
theorem d_Law_law_1014 : decode (jm_cod M_Law_law) 1014 = .ok (.aload_n 3, 1) := dt_Law_law_c24 18
theorem d_Law_law_1015 : decode (jm_cod M_Law_law) 1015 = .ok (.iconst 0, 1) := dt_Law_law_c24 19
theorem d_Law_law_1016 : decode (jm_cod M_Law_law) 1016 = .ok (.laload, 1) := dt_Law_law_c24 20
theorem d_Law_law_1017 : decode (jm_cod M_Law_law) 1017 = .ok (.iload 6, 2) := dt_Law_law_c24 21
theorem d_Law_law_1019 : decode (jm_cod M_Law_law) 1019 = .ok (.i2l, 1) := dt_Law_law_c24 22
theorem d_Law_law_1020 : decode (jm_cod M_Law_law) 1020 = .ok (.lcmp, 1) := dt_Law_law_c24 23
def tab_Law_law_c25 : List (Nat × Instr × Nat) := [(1021, .ifCond .eq 5, 3), (1024, .iconst 0, 1), (1025, .ireturn, 1), (1026, .goto 995, 3), (1029, .aload_n 1, 1), (1030, .aload_n 0, 1), (1031, .iload 4, 2), (1033, .iconst 1, 1), (1034, .iadd, 1), (1035, .iaload, 1), (1036, .aload_n 3, 1), (1037, .invokestatic 155, 3), (1040, .istore 5, 2), (1042, .aload_n 2, 1), (1043, .aload_n 0, 1), (1044, .iload 4, 2), (1046, .iconst 1, 1), (1047, .iadd, 1), (1048, .iaload, 1), (1049, .invokevirtual 157, 3), (1052, .istore 6, 2), (1054, .aload_n 2, 1), (1055, .invokevirtual 118, 3), (1058, .iload 5, 2)]
theorem dt_Law_law_c25 (i : Nat) : decode (jm_cod M_Law_law) (tab_Law_law_c25.getD i (1021, .ifCond .eq 5, 3)).1 = .ok ((tab_Law_law_c25.getD i (1021, .ifCond .eq 5, 3)).2.1, (tab_Law_law_c25.getD i (1021, .ifCond .eq 5, 3)).2.2) := j_tab (by decide +kernel) i
theorem d_Law_law_1021 : decode (jm_cod M_Law_law) 1021 = .ok (.ifCond .eq 5, 3) := dt_Law_law_c25 0
theorem d_Law_law_1024 : decode (jm_cod M_Law_law) 1024 = .ok (.iconst 0, 1) := dt_Law_law_c25 1
theorem d_Law_law_1025 : decode (jm_cod M_Law_law) 1025 = .ok (.ireturn, 1) := dt_Law_law_c25 2
theorem d_Law_law_1026 : decode (jm_cod M_Law_law) 1026 = .ok (.goto 995, 3) := dt_Law_law_c25 3
theorem d_Law_law_1029 : decode (jm_cod M_Law_law) 1029 = .ok (.aload_n 1, 1) := dt_Law_law_c25 4
theorem d_Law_law_1030 : decode (jm_cod M_Law_law) 1030 = .ok (.aload_n 0, 1) := dt_Law_law_c25 5
theorem d_Law_law_1031 : decode (jm_cod M_Law_law) 1031 = .ok (.iload 4, 2) := dt_Law_law_c25 6
theorem d_Law_law_1033 : decode (jm_cod M_Law_law) 1033 = .ok (.iconst 1, 1) := dt_Law_law_c25 7
theorem d_Law_law_1034 : decode (jm_cod M_Law_law) 1034 = .ok (.iadd, 1) := dt_Law_law_c25 8
theorem d_Law_law_1035 : decode (jm_cod M_Law_law) 1035 = .ok (.iaload, 1) := dt_Law_law_c25 9
theorem d_Law_law_1036 : decode (jm_cod M_Law_law) 1036 = .ok (.aload_n 3, 1) := dt_Law_law_c25 10
theorem d_Law_law_1037 : decode (jm_cod M_Law_law) 1037 = .ok (.invokestatic 155, 3) := dt_Law_law_c25 11
theorem d_Law_law_1040 : decode (jm_cod M_Law_law) 1040 = .ok (.istore 5, 2) := dt_Law_law_c25 12
theorem d_Law_law_1042 : decode (jm_cod M_Law_law) 1042 = .ok (.aload_n 2, 1) := dt_Law_law_c25 13
theorem d_Law_law_1043 : decode (jm_cod M_Law_law) 1043 = .ok (.aload_n 0, 1) := dt_Law_law_c25 14
theorem d_Law_law_1044 : decode (jm_cod M_Law_law) 1044 = .ok (.iload 4, 2) := dt_Law_law_c25 15
theorem d_Law_law_1046 : decode (jm_cod M_Law_law) 1046 = .ok (.iconst 1, 1) := dt_Law_law_c25 16
theorem d_Law_law_1047 : decode (jm_cod M_Law_law) 1047 = .ok (.iadd, 1) := dt_Law_law_c25 17
theorem d_Law_law_1048 : decode (jm_cod M_Law_law) 1048 = .ok (.iaload, 1) := dt_Law_law_c25 18
theorem d_Law_law_1049 : decode (jm_cod M_Law_law) 1049 = .ok (.invokevirtual 157, 3) := dt_Law_law_c25 19
theorem d_Law_law_1052 : decode (jm_cod M_Law_law) 1052 = .ok (.istore 6, 2) := dt_Law_law_c25 20
theorem d_Law_law_1054 : decode (jm_cod M_Law_law) 1054 = .ok (.aload_n 2, 1) := dt_Law_law_c25 21
theorem d_Law_law_1055 : decode (jm_cod M_Law_law) 1055 = .ok (.invokevirtual 118, 3) := dt_Law_law_c25 22
theorem d_Law_law_1058 : decode (jm_cod M_Law_law) 1058 = .ok (.iload 5, 2) := dt_Law_law_c25 23
def tab_Law_law_c26 : List (Nat × Instr × Nat) := [(1060, .if_icmp .eq 5, 3), (1063, .iconst 0, 1), (1064, .ireturn, 1), (1065, .iload 5, 2), (1067, .ifCond .ne 15, 3), (1070, .aload_n 3, 1), (1071, .iconst 0, 1), (1072, .laload, 1), (1073, .iload 6, 2), (1075, .i2l, 1), (1076, .lcmp, 1), (1077, .ifCond .eq 5, 3), (1080, .iconst 0, 1), (1081, .ireturn, 1), (1082, .goto 939, 3), (1085, .aload_n 1, 1), (1086, .aload_n 0, 1), (1087, .iload 4, 2), (1089, .iconst 1, 1), (1090, .iadd, 1), (1091, .iaload, 1), (1092, .aload_n 3, 1), (1093, .invokestatic 158, 3), (1096, .istore 5, 2)]
theorem dt_Law_law_c26 (i : Nat) : decode (jm_cod M_Law_law) (tab_Law_law_c26.getD i (1060, .if_icmp .eq 5, 3)).1 = .ok ((tab_Law_law_c26.getD i (1060, .if_icmp .eq 5, 3)).2.1, (tab_Law_law_c26.getD i (1060, .if_icmp .eq 5, 3)).2.2) := j_tab (by decide +kernel) i
theorem d_Law_law_1060 : decode (jm_cod M_Law_law) 1060 = .ok (.if_icmp .eq 5, 3) := dt_Law_law_c26 0
theorem d_Law_law_1063 : decode (jm_cod M_Law_law) 1063 = .ok (.iconst 0, 1) := dt_Law_law_c26 1
theorem d_Law_law_1064 : decode (jm_cod M_Law_law) 1064 = .ok (.ireturn, 1) := dt_Law_law_c26 2
theorem d_Law_law_1065 : decode (jm_cod M_Law_law) 1065 = .ok (.iload 5, 2) := dt_Law_law_c26 3
theorem d_Law_law_1067 : decode (jm_cod M_Law_law) 1067 = .ok (.ifCond .ne 15, 3) := dt_Law_law_c26 4
theorem d_Law_law_1070 : decode (jm_cod M_Law_law) 1070 = .ok (.aload_n 3, 1) := dt_Law_law_c26 5
theorem d_Law_law_1071 : decode (jm_cod M_Law_law) 1071 = .ok (.iconst 0, 1) := dt_Law_law_c26 6
theorem d_Law_law_1072 : decode (jm_cod M_Law_law) 1072 = .ok (.laload, 1) := dt_Law_law_c26 7
theorem d_Law_law_1073 : decode (jm_cod M_Law_law) 1073 = .ok (.iload 6, 2) := dt_Law_law_c26 8
theorem d_Law_law_1075 : decode (jm_cod M_Law_law) 1075 = .ok (.i2l, 1) := dt_Law_law_c26 9
theorem d_Law_law_1076 : decode (jm_cod M_Law_law) 1076 = .ok (.lcmp, 1) := dt_Law_law_c26 10
theorem d_Law_law_1077 : decode (jm_cod M_Law_law) 1077 = .ok (.ifCond .eq 5, 3) := dt_Law_law_c26 11
theorem d_Law_law_1080 : decode (jm_cod M_Law_law) 1080 = .ok (.iconst 0, 1) := dt_Law_law_c26 12
theorem d_Law_law_1081 : decode (jm_cod M_Law_law) 1081 = .ok (.ireturn, 1) := dt_Law_law_c26 13
theorem d_Law_law_1082 : decode (jm_cod M_Law_law) 1082 = .ok (.goto 939, 3) := dt_Law_law_c26 14
theorem d_Law_law_1085 : decode (jm_cod M_Law_law) 1085 = .ok (.aload_n 1, 1) := dt_Law_law_c26 15
theorem d_Law_law_1086 : decode (jm_cod M_Law_law) 1086 = .ok (.aload_n 0, 1) := dt_Law_law_c26 16
theorem d_Law_law_1087 : decode (jm_cod M_Law_law) 1087 = .ok (.iload 4, 2) := dt_Law_law_c26 17
theorem d_Law_law_1089 : decode (jm_cod M_Law_law) 1089 = .ok (.iconst 1, 1) := dt_Law_law_c26 18
theorem d_Law_law_1090 : decode (jm_cod M_Law_law) 1090 = .ok (.iadd, 1) := dt_Law_law_c26 19
theorem d_Law_law_1091 : decode (jm_cod M_Law_law) 1091 = .ok (.iaload, 1) := dt_Law_law_c26 20
theorem d_Law_law_1092 : decode (jm_cod M_Law_law) 1092 = .ok (.aload_n 3, 1) := dt_Law_law_c26 21
theorem d_Law_law_1093 : decode (jm_cod M_Law_law) 1093 = .ok (.invokestatic 158, 3) := dt_Law_law_c26 22
theorem d_Law_law_1096 : decode (jm_cod M_Law_law) 1096 = .ok (.istore 5, 2) := dt_Law_law_c26 23
def tab_Law_law_c27 : List (Nat × Instr × Nat) := [(1098, .aload_n 2, 1), (1099, .aload_n 0, 1), (1100, .iload 4, 2), (1102, .iconst 1, 1), (1103, .iadd, 1), (1104, .iaload, 1), (1105, .invokevirtual 160, 3), (1108, .istore 6, 2), (1110, .aload_n 2, 1), (1111, .invokevirtual 118, 3), (1114, .iload 5, 2), (1116, .if_icmp .eq 5, 3), (1119, .iconst 0, 1), (1120, .ireturn, 1), (1121, .iload 5, 2), (1123, .ifCond .ne 15, 3), (1126, .aload_n 3, 1), (1127, .iconst 0, 1), (1128, .laload, 1), (1129, .iload 6, 2), (1131, .i2l, 1), (1132, .lcmp, 1), (1133, .ifCond .eq 5, 3), (1136, .iconst 0, 1)]
theorem dt_Law_law_c27 (i : Nat) : decode (jm_cod M_Law_law) (tab_Law_law_c27.getD i (1098, .aload_n 2, 1)).1 = .ok ((tab_Law_law_c27.getD i (1098, .aload_n 2, 1)).2.1, (tab_Law_law_c27.getD i (1098, .aload_n 2, 1)).2.2) := j_tab (by decide +kernel) i
theorem d_Law_law_1098 : decode (jm_cod M_Law_law) 1098 = .ok (.aload_n 2, 1) := dt_Law_law_c27 0
theorem d_Law_law_1099 : decode (jm_cod M_Law_law) 1099 = .ok (.aload_n 0, 1) := dt_Law_law_c27 1
theorem d_Law_law_1100 : decode (jm_cod M_Law_law) 1100 = .ok (.iload 4, 2) := dt_Law_law_c27 2
theorem d_Law_law_1102 : decode (jm_cod M_Law_law) 1102 = .ok (.iconst 1, 1) := dt_Law_law_c27 3
theorem d_Law_law_1103 : decode (jm_cod M_Law_law) 1103 = .ok (.iadd, 1) := dt_Law_law_c27 4
theorem d_Law_law_1104 : decode (jm_cod M_Law_law) 1104 = .ok (.iaload, 1) := dt_Law_law_c27 5
theorem d_Law_law_1105 : decode (jm_cod M_Law_law) 1105 = .ok (.invokevirtual 160, 3) := dt_Law_law_c27 6
theorem d_Law_law_1108 : decode (jm_cod M_Law_law) 1108 = .ok (.istore 6, 2) := dt_Law_law_c27 7
theorem d_Law_law_1110 : decode (jm_cod M_Law_law) 1110 = .ok (.aload_n 2, 1) := dt_Law_law_c27 8
theorem d_Law_law_1111 : decode (jm_cod M_Law_law) 1111 = .ok (.invokevirtual 118, 3) := dt_Law_law_c27 9
theorem d_Law_law_1114 : decode (jm_cod M_Law_law) 1114 = .ok (.iload 5, 2) := dt_Law_law_c27 10
theorem d_Law_law_1116 : decode (jm_cod M_Law_law) 1116 = .ok (.if_icmp .eq 5, 3) := dt_Law_law_c27 11
theorem d_Law_law_1119 : decode (jm_cod M_Law_law) 1119 = .ok (.iconst 0, 1) := dt_Law_law_c27 12
theorem d_Law_law_1120 : decode (jm_cod M_Law_law) 1120 = .ok (.ireturn, 1) := dt_Law_law_c27 13
theorem d_Law_law_1121 : decode (jm_cod M_Law_law) 1121 = .ok (.iload 5, 2) := dt_Law_law_c27 14
theorem d_Law_law_1123 : decode (jm_cod M_Law_law) 1123 = .ok (.ifCond .ne 15, 3) := dt_Law_law_c27 15
theorem d_Law_law_1126 : decode (jm_cod M_Law_law) 1126 = .ok (.aload_n 3, 1) := dt_Law_law_c27 16
theorem d_Law_law_1127 : decode (jm_cod M_Law_law) 1127 = .ok (.iconst 0, 1) := dt_Law_law_c27 17
theorem d_Law_law_1128 : decode (jm_cod M_Law_law) 1128 = .ok (.laload, 1) := dt_Law_law_c27 18
theorem d_Law_law_1129 : decode (jm_cod M_Law_law) 1129 = .ok (.iload 6, 2) := dt_Law_law_c27 19
theorem d_Law_law_1131 : decode (jm_cod M_Law_law) 1131 = .ok (.i2l, 1) := dt_Law_law_c27 20
theorem d_Law_law_1132 : decode (jm_cod M_Law_law) 1132 = .ok (.lcmp, 1) := dt_Law_law_c27 21
theorem d_Law_law_1133 : decode (jm_cod M_Law_law) 1133 = .ok (.ifCond .eq 5, 3) := dt_Law_law_c27 22
theorem d_Law_law_1136 : decode (jm_cod M_Law_law) 1136 = .ok (.iconst 0, 1) := dt_Law_law_c27 23
def tab_Law_law_c28 : List (Nat × Instr × Nat) := [(1137, .ireturn, 1), (1138, .goto 883, 3), (1141, .aload_n 1, 1), (1142, .aload_n 0, 1), (1143, .iload 4, 2), (1145, .iconst 1, 1), (1146, .iadd, 1), (1147, .iaload, 1), (1148, .aload_n 0, 1), (1149, .iload 4, 2), (1151, .iconst 2, 1), (1152, .iadd, 1), (1153, .iaload, 1), (1154, .aload_n 3, 1), (1155, .invokestatic 161, 3), (1158, .istore 5, 2), (1160, .aload_n 2, 1), (1161, .aload_n 0, 1), (1162, .iload 4, 2), (1164, .iconst 1, 1), (1165, .iadd, 1), (1166, .iaload, 1), (1167, .aload_n 0, 1), (1168, .iload 4, 2)]
theorem dt_Law_law_c28 (i : Nat) : decode (jm_cod M_Law_law) (tab_Law_law_c28.getD i (1137, .ireturn, 1)).1 = .ok ((tab_Law_law_c28.getD i (1137, .ireturn, 1)).2.1, (tab_Law_law_c28.getD i (1137, .ireturn, 1)).2.2) := j_tab (by decide +kernel) i
theorem d_Law_law_1137 : decode (jm_cod M_Law_law) 1137 = .ok (.ireturn, 1) := dt_Law_law_c28 0
theorem d_Law_law_1138 : decode (jm_cod M_Law_law) 1138 = .ok (.goto 883, 3) := dt_Law_law_c28 1
theorem d_Law_law_1141 : decode (jm_cod M_Law_law) 1141 = .ok (.aload_n 1, 1) := dt_Law_law_c28 2
theorem d_Law_law_1142 : decode (jm_cod M_Law_law) 1142 = .ok (.aload_n 0, 1) := dt_Law_law_c28 3
theorem d_Law_law_1143 : decode (jm_cod M_Law_law) 1143 = .ok (.iload 4, 2) := dt_Law_law_c28 4
theorem d_Law_law_1145 : decode (jm_cod M_Law_law) 1145 = .ok (.iconst 1, 1) := dt_Law_law_c28 5
theorem d_Law_law_1146 : decode (jm_cod M_Law_law) 1146 = .ok (.iadd, 1) := dt_Law_law_c28 6
theorem d_Law_law_1147 : decode (jm_cod M_Law_law) 1147 = .ok (.iaload, 1) := dt_Law_law_c28 7
theorem d_Law_law_1148 : decode (jm_cod M_Law_law) 1148 = .ok (.aload_n 0, 1) := dt_Law_law_c28 8
theorem d_Law_law_1149 : decode (jm_cod M_Law_law) 1149 = .ok (.iload 4, 2) := dt_Law_law_c28 9
theorem d_Law_law_1151 : decode (jm_cod M_Law_law) 1151 = .ok (.iconst 2, 1) := dt_Law_law_c28 10
theorem d_Law_law_1152 : decode (jm_cod M_Law_law) 1152 = .ok (.iadd, 1) := dt_Law_law_c28 11
theorem d_Law_law_1153 : decode (jm_cod M_Law_law) 1153 = .ok (.iaload, 1) := dt_Law_law_c28 12
theorem d_Law_law_1154 : decode (jm_cod M_Law_law) 1154 = .ok (.aload_n 3, 1) := dt_Law_law_c28 13
theorem d_Law_law_1155 : decode (jm_cod M_Law_law) 1155 = .ok (.invokestatic 161, 3) := dt_Law_law_c28 14
theorem d_Law_law_1158 : decode (jm_cod M_Law_law) 1158 = .ok (.istore 5, 2) := dt_Law_law_c28 15
theorem d_Law_law_1160 : decode (jm_cod M_Law_law) 1160 = .ok (.aload_n 2, 1) := dt_Law_law_c28 16
theorem d_Law_law_1161 : decode (jm_cod M_Law_law) 1161 = .ok (.aload_n 0, 1) := dt_Law_law_c28 17
theorem d_Law_law_1162 : decode (jm_cod M_Law_law) 1162 = .ok (.iload 4, 2) := dt_Law_law_c28 18
theorem d_Law_law_1164 : decode (jm_cod M_Law_law) 1164 = .ok (.iconst 1, 1) := dt_Law_law_c28 19
theorem d_Law_law_1165 : decode (jm_cod M_Law_law) 1165 = .ok (.iadd, 1) := dt_Law_law_c28 20
theorem d_Law_law_1166 : decode (jm_cod M_Law_law) 1166 = .ok (.iaload, 1) := dt_Law_law_c28 21
theorem d_Law_law_1167 : decode (jm_cod M_Law_law) 1167 = .ok (.aload_n 0, 1) := dt_Law_law_c28 22
theorem d_Law_law_1168 : decode (jm_cod M_Law_law) 1168 = .ok (.iload 4, 2) := dt_Law_law_c28 23
def tab_Law_law_c29 : List (Nat × Instr × Nat) := [(1170, .iconst 2, 1), (1171, .iadd, 1), (1172, .iaload, 1), (1173, .invokevirtual 163, 3), (1176, .istore 6, 2), (1178, .aload_n 2, 1), (1179, .invokevirtual 118, 3), (1182, .iload 5, 2), (1184, .if_icmp .eq 5, 3), (1187, .iconst 0, 1), (1188, .ireturn, 1), (1189, .iload 5, 2), (1191, .ifCond .ne 15, 3), (1194, .aload_n 3, 1), (1195, .iconst 0, 1), (1196, .laload, 1), (1197, .iload 6, 2), (1199, .i2l, 1), (1200, .lcmp, 1), (1201, .ifCond .eq 5, 3), (1204, .iconst 0, 1), (1205, .ireturn, 1), (1206, .goto 815, 3), (1209, .aload_n 1, 1)]
theorem dt_Law_law_c29 (i : Nat) : decode (jm_cod M_Law_law) (tab_Law_law_c29.getD i (1170, .iconst 2, 1)).1 = .ok ((tab_Law_law_c29.getD i (1170, .iconst 2, 1)).2.1, (tab_Law_law_c29.getD i (1170, .iconst 2, 1)).2.2) := j_tab (by decide +kernel) i
theorem d_Law_law_1170 : decode (jm_cod M_Law_law) 1170 = .ok (.iconst 2, 1) := dt_Law_law_c29 0
theorem d_Law_law_1171 : decode (jm_cod M_Law_law) 1171 = .ok (.iadd, 1) := dt_Law_law_c29 1
theorem d_Law_law_1172 : decode (jm_cod M_Law_law) 1172 = .ok (.iaload, 1) := dt_Law_law_c29 2
theorem d_Law_law_1173 : decode (jm_cod M_Law_law) 1173 = .ok (.invokevirtual 163, 3) := dt_Law_law_c29 3
theorem d_Law_law_1176 : decode (jm_cod M_Law_law) 1176 = .ok (.istore 6, 2) := dt_Law_law_c29 4
theorem d_Law_law_1178 : decode (jm_cod M_Law_law) 1178 = .ok (.aload_n 2, 1) := dt_Law_law_c29 5
theorem d_Law_law_1179 : decode (jm_cod M_Law_law) 1179 = .ok (.invokevirtual 118, 3) := dt_Law_law_c29 6
theorem d_Law_law_1182 : decode (jm_cod M_Law_law) 1182 = .ok (.iload 5, 2) := dt_Law_law_c29 7
theorem d_Law_law_1184 : decode (jm_cod M_Law_law) 1184 = .ok (.if_icmp .eq 5, 3) := dt_Law_law_c29 8
theorem d_Law_law_1187 : decode (jm_cod M_Law_law) 1187 = .ok (.iconst 0, 1) := dt_Law_law_c29 9
theorem d_Law_law_1188 : decode (jm_cod M_Law_law) 1188 = .ok (.ireturn, 1) := dt_Law_law_c29 10
theorem d_Law_law_1189 : decode (jm_cod M_Law_law) 1189 = .ok (.iload 5, 2) := dt_Law_law_c29 11
theorem d_Law_law_1191 : decode (jm_cod M_Law_law) 1191 = .ok (.ifCond .ne 15, 3) := dt_Law_law_c29 12
theorem d_Law_law_1194 : decode (jm_cod M_Law_law) 1194 = .ok (.aload_n 3, 1) := dt_Law_law_c29 13
theorem d_Law_law_1195 : decode (jm_cod M_Law_law) 1195 = .ok (.iconst 0, 1) := dt_Law_law_c29 14
theorem d_Law_law_1196 : decode (jm_cod M_Law_law) 1196 = .ok (.laload, 1) := dt_Law_law_c29 15
theorem d_Law_law_1197 : decode (jm_cod M_Law_law) 1197 = .ok (.iload 6, 2) := dt_Law_law_c29 16
theorem d_Law_law_1199 : decode (jm_cod M_Law_law) 1199 = .ok (.i2l, 1) := dt_Law_law_c29 17
theorem d_Law_law_1200 : decode (jm_cod M_Law_law) 1200 = .ok (.lcmp, 1) := dt_Law_law_c29 18
theorem d_Law_law_1201 : decode (jm_cod M_Law_law) 1201 = .ok (.ifCond .eq 5, 3) := dt_Law_law_c29 19
theorem d_Law_law_1204 : decode (jm_cod M_Law_law) 1204 = .ok (.iconst 0, 1) := dt_Law_law_c29 20
theorem d_Law_law_1205 : decode (jm_cod M_Law_law) 1205 = .ok (.ireturn, 1) := dt_Law_law_c29 21
theorem d_Law_law_1206 : decode (jm_cod M_Law_law) 1206 = .ok (.goto 815, 3) := dt_Law_law_c29 22
theorem d_Law_law_1209 : decode (jm_cod M_Law_law) 1209 = .ok (.aload_n 1, 1) := dt_Law_law_c29 23
def tab_Law_law_c30 : List (Nat × Instr × Nat) := [(1210, .aload_n 0, 1), (1211, .iload 4, 2), (1213, .iconst 1, 1), (1214, .iadd, 1), (1215, .iaload, 1), (1216, .aload_n 0, 1), (1217, .iload 4, 2), (1219, .iconst 2, 1), (1220, .iadd, 1), (1221, .iaload, 1), (1222, .aload_n 3, 1), (1223, .invokestatic 164, 3), (1226, .istore 5, 2), (1228, .aload_n 2, 1), (1229, .aload_n 0, 1), (1230, .iload 4, 2), (1232, .iconst 1, 1), (1233, .iadd, 1), (1234, .iaload, 1), (1235, .aload_n 0, 1), (1236, .iload 4, 2), (1238, .iconst 2, 1), (1239, .iadd, 1), (1240, .iaload, 1)]
theorem dt_Law_law_c30 (i : Nat) : decode (jm_cod M_Law_law) (tab_Law_law_c30.getD i (1210, .aload_n 0, 1)).1 = .ok ((tab_Law_law_c30.getD i (1210, .aload_n 0, 1)).2.1, (tab_Law_law_c30.getD i (1210, .aload_n 0, 1)).2.2) := j_tab (by decide +kernel) i
theorem d_Law_law_1210 : decode (jm_cod M_Law_law) 1210 = .ok (.aload_n 0, 1) := dt_Law_law_c30 0
theorem d_Law_law_1211 : decode (jm_cod M_Law_law) 1211 = .ok (.iload 4, 2) := dt_Law_law_c30 1
theorem d_Law_law_1213 : decode (jm_cod M_Law_law) 1213 = .ok (.iconst 1, 1) := dt_Law_law_c30 2
theorem d_Law_law_1214 : decode (jm_cod M_Law_law) 1214 = .ok (.iadd, 1) := dt_Law_law_c30 3
theorem d_Law_law_1215 : decode (jm_cod M_Law_law) 1215 = .ok (.iaload, 1) := dt_Law_law_c30 4
theorem d_Law_law_1216 : decode (jm_cod M_Law_law) 1216 = .ok (.aload_n 0, 1) := dt_Law_law_c30 5
theorem d_Law_law_1217 : decode (jm_cod M_Law_law) 1217 = .ok (.iload 4, 2) := dt_Law_law_c30 6
theorem d_Law_law_1219 : decode (jm_cod M_Law_law) 1219 = .ok (.iconst 2, 1) := dt_Law_law_c30 7
theorem d_Law_law_1220 : decode (jm_cod M_Law_law) 1220 = .ok (.iadd, 1) := dt_Law_law_c30 8
theorem d_Law_law_1221 : decode (jm_cod M_Law_law) 1221 = .ok (.iaload, 1) := dt_Law_law_c30 9
theorem d_Law_law_1222 : decode (jm_cod M_Law_law) 1222 = .ok (.aload_n 3, 1) := dt_Law_law_c30 10
theorem d_Law_law_1223 : decode (jm_cod M_Law_law) 1223 = .ok (.invokestatic 164, 3) := dt_Law_law_c30 11
theorem d_Law_law_1226 : decode (jm_cod M_Law_law) 1226 = .ok (.istore 5, 2) := dt_Law_law_c30 12
theorem d_Law_law_1228 : decode (jm_cod M_Law_law) 1228 = .ok (.aload_n 2, 1) := dt_Law_law_c30 13
theorem d_Law_law_1229 : decode (jm_cod M_Law_law) 1229 = .ok (.aload_n 0, 1) := dt_Law_law_c30 14
theorem d_Law_law_1230 : decode (jm_cod M_Law_law) 1230 = .ok (.iload 4, 2) := dt_Law_law_c30 15
theorem d_Law_law_1232 : decode (jm_cod M_Law_law) 1232 = .ok (.iconst 1, 1) := dt_Law_law_c30 16
theorem d_Law_law_1233 : decode (jm_cod M_Law_law) 1233 = .ok (.iadd, 1) := dt_Law_law_c30 17
theorem d_Law_law_1234 : decode (jm_cod M_Law_law) 1234 = .ok (.iaload, 1) := dt_Law_law_c30 18
theorem d_Law_law_1235 : decode (jm_cod M_Law_law) 1235 = .ok (.aload_n 0, 1) := dt_Law_law_c30 19
theorem d_Law_law_1236 : decode (jm_cod M_Law_law) 1236 = .ok (.iload 4, 2) := dt_Law_law_c30 20
theorem d_Law_law_1238 : decode (jm_cod M_Law_law) 1238 = .ok (.iconst 2, 1) := dt_Law_law_c30 21
theorem d_Law_law_1239 : decode (jm_cod M_Law_law) 1239 = .ok (.iadd, 1) := dt_Law_law_c30 22
theorem d_Law_law_1240 : decode (jm_cod M_Law_law) 1240 = .ok (.iaload, 1) := dt_Law_law_c30 23
def tab_Law_law_c31 : List (Nat × Instr × Nat) := [(1241, .invokevirtual 166, 3), (1244, .lstore 6, 2), (1246, .aload_n 2, 1), (1247, .invokevirtual 118, 3), (1250, .iload 5, 2), (1252, .if_icmp .eq 5, 3), (1255, .iconst 0, 1), (1256, .ireturn, 1), (1257, .iload 5, 2), (1259, .ifCond .ne 14, 3), (1262, .aload_n 3, 1), (1263, .iconst 0, 1), (1264, .laload, 1), (1265, .lload 6, 2), (1267, .lcmp, 1), (1268, .ifCond .eq 5, 3), (1271, .iconst 0, 1), (1272, .ireturn, 1), (1273, .goto 748, 3), (1276, .aload_n 1, 1), (1277, .aload_n 3, 1), (1278, .invokestatic 167, 3), (1281, .istore 5, 2), (1283, .aload_n 2, 1)]
theorem dt_Law_law_c31 (i : Nat) : decode (jm_cod M_Law_law) (tab_Law_law_c31.getD i (1241, .invokevirtual 166, 3)).1 = .ok ((tab_Law_law_c31.getD i (1241, .invokevirtual 166, 3)).2.1, (tab_Law_law_c31.getD i (1241, .invokevirtual 166, 3)).2.2) := j_tab (by decide +kernel) i
theorem d_Law_law_1241 : decode (jm_cod M_Law_law) 1241 = .ok (.invokevirtual 166, 3) := dt_Law_law_c31 0
theorem d_Law_law_1244 : decode (jm_cod M_Law_law) 1244 = .ok (.lstore 6, 2) := dt_Law_law_c31 1
theorem d_Law_law_1246 : decode (jm_cod M_Law_law) 1246 = .ok (.aload_n 2, 1) := dt_Law_law_c31 2
theorem d_Law_law_1247 : decode (jm_cod M_Law_law) 1247 = .ok (.invokevirtual 118, 3) := dt_Law_law_c31 3
theorem d_Law_law_1250 : decode (jm_cod M_Law_law) 1250 = .ok (.iload 5, 2) := dt_Law_law_c31 4
theorem d_Law_law_1252 : decode (jm_cod M_Law_law) 1252 = .ok (.if_icmp .eq 5, 3) := dt_Law_law_c31 5
theorem d_Law_law_1255 : decode (jm_cod M_Law_law) 1255 = .ok (.iconst 0, 1) := dt_Law_law_c31 6
theorem d_Law_law_1256 : decode (jm_cod M_Law_law) 1256 = .ok (.ireturn, 1) := dt_Law_law_c31 7
theorem d_Law_law_1257 : decode (jm_cod M_Law_law) 1257 = .ok (.iload 5, 2) := dt_Law_law_c31 8
theorem d_Law_law_1259 : decode (jm_cod M_Law_law) 1259 = .ok (.ifCond .ne 14, 3) := dt_Law_law_c31 9
theorem d_Law_law_1262 : decode (jm_cod M_Law_law) 1262 = .ok (.aload_n 3, 1) := dt_Law_law_c31 10
theorem d_Law_law_1263 : decode (jm_cod M_Law_law) 1263 = .ok (.iconst 0, 1) := dt_Law_law_c31 11
theorem d_Law_law_1264 : decode (jm_cod M_Law_law) 1264 = .ok (.laload, 1) := dt_Law_law_c31 12
theorem d_Law_law_1265 : decode (jm_cod M_Law_law) 1265 = .ok (.lload 6, 2) := dt_Law_law_c31 13
theorem d_Law_law_1267 : decode (jm_cod M_Law_law) 1267 = .ok (.lcmp, 1) := dt_Law_law_c31 14
theorem d_Law_law_1268 : decode (jm_cod M_Law_law) 1268 = .ok (.ifCond .eq 5, 3) := dt_Law_law_c31 15
theorem d_Law_law_1271 : decode (jm_cod M_Law_law) 1271 = .ok (.iconst 0, 1) := dt_Law_law_c31 16
theorem d_Law_law_1272 : decode (jm_cod M_Law_law) 1272 = .ok (.ireturn, 1) := dt_Law_law_c31 17
theorem d_Law_law_1273 : decode (jm_cod M_Law_law) 1273 = .ok (.goto 748, 3) := dt_Law_law_c31 18
theorem d_Law_law_1276 : decode (jm_cod M_Law_law) 1276 = .ok (.aload_n 1, 1) := dt_Law_law_c31 19
theorem d_Law_law_1277 : decode (jm_cod M_Law_law) 1277 = .ok (.aload_n 3, 1) := dt_Law_law_c31 20
theorem d_Law_law_1278 : decode (jm_cod M_Law_law) 1278 = .ok (.invokestatic 167, 3) := dt_Law_law_c31 21
theorem d_Law_law_1281 : decode (jm_cod M_Law_law) 1281 = .ok (.istore 5, 2) := dt_Law_law_c31 22
theorem d_Law_law_1283 : decode (jm_cod M_Law_law) 1283 = .ok (.aload_n 2, 1) := dt_Law_law_c31 23
def tab_Law_law_c32 : List (Nat × Instr × Nat) := [(1284, .invokevirtual 170, 3), (1287, .istore 6, 2), (1289, .aload_n 2, 1), (1290, .invokevirtual 118, 3), (1293, .iload 5, 2), (1295, .if_icmp .eq 5, 3), (1298, .iconst 0, 1), (1299, .ireturn, 1), (1300, .iload 5, 2), (1302, .ifCond .ne 15, 3), (1305, .aload_n 3, 1), (1306, .iconst 0, 1), (1307, .laload, 1), (1308, .iload 6, 2), (1310, .i2l, 1), (1311, .lcmp, 1), (1312, .ifCond .eq 5, 3), (1315, .iconst 0, 1), (1316, .ireturn, 1), (1317, .goto 704, 3), (1320, .aload_n 1, 1), (1321, .aload_n 0, 1), (1322, .iload 4, 2), (1324, .iconst 1, 1)]
theorem dt_Law_law_c32 (i : Nat) : decode (jm_cod M_Law_law) (tab_Law_law_c32.getD i (1284, .invokevirtual 170, 3)).1 = .ok ((tab_Law_law_c32.getD i (1284, .invokevirtual 170, 3)).2.1, (tab_Law_law_c32.getD i (1284, .invokevirtual 170, 3)).2.2) := j_tab (by decide +kernel) i
theorem d_Law_law_1284 : decode (jm_cod M_Law_law) 1284 = .ok (.invokevirtual 170, 3) := dt_Law_law_c32 0
theorem d_Law_law_1287 : decode (jm_cod M_Law_law) 1287 = .ok (.istore 6, 2) := dt_Law_law_c32 1
theorem d_Law_law_1289 : decode (jm_cod M_Law_law) 1289 = .ok (.aload_n 2, 1) := dt_Law_law_c32 2
theorem d_Law_law_1290 : decode (jm_cod M_Law_law) 1290 = .ok (.invokevirtual 118, 3) := dt_Law_law_c32 3
theorem d_Law_law_1293 : decode (jm_cod M_Law_law) 1293 = .ok (.iload 5, 2) := dt_Law_law_c32 4
theorem d_Law_law_1295 : decode (jm_cod M_Law_law) 1295 = .ok (.if_icmp .eq 5, 3) := dt_Law_law_c32 5
theorem d_Law_law_1298 : decode (jm_cod M_Law_law) 1298 = .ok (.iconst 0, 1) := dt_Law_law_c32 6
theorem d_Law_law_1299 : decode (jm_cod M_Law_law) 1299 = .ok (.ireturn, 1) := dt_Law_law_c32 7
theorem d_Law_law_1300 : decode (jm_cod M_Law_law) 1300 = .ok (.iload 5, 2) := dt_Law_law_c32 8
theorem d_Law_law_1302 : decode (jm_cod M_Law_law) 1302 = .ok (.ifCond .ne 15, 3) := dt_Law_law_c32 9
theorem d_Law_law_1305 : decode (jm_cod M_Law_law) 1305 = .ok (.aload_n 3, 1) := dt_Law_law_c32 10
theorem d_Law_law_1306 : decode (jm_cod M_Law_law) 1306 = .ok (.iconst 0, 1) := dt_Law_law_c32 11
theorem d_Law_law_1307 : decode (jm_cod M_Law_law) 1307 = .ok (.laload, 1) := dt_Law_law_c32 12
theorem d_Law_law_1308 : decode (jm_cod M_Law_law) 1308 = .ok (.iload 6, 2) := dt_Law_law_c32 13
theorem d_Law_law_1310 : decode (jm_cod M_Law_law) 1310 = .ok (.i2l, 1) := dt_Law_law_c32 14
theorem d_Law_law_1311 : decode (jm_cod M_Law_law) 1311 = .ok (.lcmp, 1) := dt_Law_law_c32 15
theorem d_Law_law_1312 : decode (jm_cod M_Law_law) 1312 = .ok (.ifCond .eq 5, 3) := dt_Law_law_c32 16
theorem d_Law_law_1315 : decode (jm_cod M_Law_law) 1315 = .ok (.iconst 0, 1) := dt_Law_law_c32 17
theorem d_Law_law_1316 : decode (jm_cod M_Law_law) 1316 = .ok (.ireturn, 1) := dt_Law_law_c32 18
theorem d_Law_law_1317 : decode (jm_cod M_Law_law) 1317 = .ok (.goto 704, 3) := dt_Law_law_c32 19
theorem d_Law_law_1320 : decode (jm_cod M_Law_law) 1320 = .ok (.aload_n 1, 1) := dt_Law_law_c32 20
theorem d_Law_law_1321 : decode (jm_cod M_Law_law) 1321 = .ok (.aload_n 0, 1) := dt_Law_law_c32 21
theorem d_Law_law_1322 : decode (jm_cod M_Law_law) 1322 = .ok (.iload 4, 2) := dt_Law_law_c32 22
theorem d_Law_law_1324 : decode (jm_cod M_Law_law) 1324 = .ok (.iconst 1, 1) := dt_Law_law_c32 23
def tab_Law_law_c33 : List (Nat × Instr × Nat) := [(1325, .iadd, 1), (1326, .iaload, 1), (1327, .aload_n 0, 1), (1328, .iload 4, 2), (1330, .iconst 2, 1), (1331, .iadd, 1), (1332, .iaload, 1), (1333, .aload_n 0, 1), (1334, .iload 4, 2), (1336, .iconst 3, 1), (1337, .iadd, 1), (1338, .iaload, 1), (1339, .aload_n 0, 1), (1340, .iload 4, 2), (1342, .iconst 4, 1), (1343, .iadd, 1), (1344, .iaload, 1), (1345, .aload_n 3, 1), (1346, .invokestatic 171, 3), (1349, .istore 5, 2), (1351, .aload_n 2, 1), (1352, .aload_n 0, 1), (1353, .iload 4, 2), (1355, .iconst 1, 1)]
theorem dt_Law_law_c33 (i : Nat) : decode (jm_cod M_Law_law) (tab_Law_law_c33.getD i (1325, .iadd, 1)).1 = .ok ((tab_Law_law_c33.getD i (1325, .iadd, 1)).2.1, (tab_Law_law_c33.getD i (1325, .iadd, 1)).2.2) := j_tab (by decide +kernel) i
theorem d_Law_law_1325 : decode (jm_cod M_Law_law) 1325 = .ok (.iadd, 1) := dt_Law_law_c33 0
theorem d_Law_law_1326 : decode (jm_cod M_Law_law) 1326 = .ok (.iaload, 1) := dt_Law_law_c33 1
theorem d_Law_law_1327 : decode (jm_cod M_Law_law) 1327 = .ok (.aload_n 0, 1) := dt_Law_law_c33 2
theorem d_Law_law_1328 : decode (jm_cod M_Law_law) 1328 = .ok (.iload 4, 2) := dt_Law_law_c33 3
theorem d_Law_law_1330 : decode (jm_cod M_Law_law) 1330 = .ok (.iconst 2, 1) := dt_Law_law_c33 4
theorem d_Law_law_1331 : decode (jm_cod M_Law_law) 1331 = .ok (.iadd, 1) := dt_Law_law_c33 5
theorem d_Law_law_1332 : decode (jm_cod M_Law_law) 1332 = .ok (.iaload, 1) := dt_Law_law_c33 6
theorem d_Law_law_1333 : decode (jm_cod M_Law_law) 1333 = .ok (.aload_n 0, 1) := dt_Law_law_c33 7
theorem d_Law_law_1334 : decode (jm_cod M_Law_law) 1334 = .ok (.iload 4, 2) := dt_Law_law_c33 8
theorem d_Law_law_1336 : decode (jm_cod M_Law_law) 1336 = .ok (.iconst 3, 1) := dt_Law_law_c33 9
theorem d_Law_law_1337 : decode (jm_cod M_Law_law) 1337 = .ok (.iadd, 1) := dt_Law_law_c33 10
theorem d_Law_law_1338 : decode (jm_cod M_Law_law) 1338 = .ok (.iaload, 1) := dt_Law_law_c33 11
theorem d_Law_law_1339 : decode (jm_cod M_Law_law) 1339 = .ok (.aload_n 0, 1) := dt_Law_law_c33 12
theorem d_Law_law_1340 : decode (jm_cod M_Law_law) 1340 = .ok (.iload 4, 2) := dt_Law_law_c33 13
theorem d_Law_law_1342 : decode (jm_cod M_Law_law) 1342 = .ok (.iconst 4, 1) := dt_Law_law_c33 14
theorem d_Law_law_1343 : decode (jm_cod M_Law_law) 1343 = .ok (.iadd, 1) := dt_Law_law_c33 15
theorem d_Law_law_1344 : decode (jm_cod M_Law_law) 1344 = .ok (.iaload, 1) := dt_Law_law_c33 16
theorem d_Law_law_1345 : decode (jm_cod M_Law_law) 1345 = .ok (.aload_n 3, 1) := dt_Law_law_c33 17
theorem d_Law_law_1346 : decode (jm_cod M_Law_law) 1346 = .ok (.invokestatic 171, 3) := dt_Law_law_c33 18
theorem d_Law_law_1349 : decode (jm_cod M_Law_law) 1349 = .ok (.istore 5, 2) := dt_Law_law_c33 19
theorem d_Law_law_1351 : decode (jm_cod M_Law_law) 1351 = .ok (.aload_n 2, 1) := dt_Law_law_c33 20
theorem d_Law_law_1352 : decode (jm_cod M_Law_law) 1352 = .ok (.aload_n 0, 1) := dt_Law_law_c33 21
theorem d_Law_law_1353 : decode (jm_cod M_Law_law) 1353 = .ok (.iload 4, 2) := dt_Law_law_c33 22
theorem d_Law_law_1355 : decode (jm_cod M_Law_law) 1355 = .ok (.iconst 1, 1) := dt_Law_law_c33 23
def tab_Law_law_c34 : List (Nat × Instr × Nat) := [(1356, .iadd, 1), (1357, .iaload, 1), (1358, .aload_n 0, 1), (1359, .iload 4, 2), (1361, .iconst 2, 1), (1362, .iadd, 1), (1363, .iaload, 1), (1364, .aload_n 0, 1), (1365, .iload 4, 2), (1367, .iconst 3, 1), (1368, .iadd, 1), (1369, .iaload, 1), (1370, .aload_n 0, 1), (1371, .iload 4, 2), (1373, .iconst 4, 1), (1374, .iadd, 1), (1375, .iaload, 1), (1376, .invokevirtual 174, 3), (1379, .istore 6, 2), (1381, .aload_n 2, 1), (1382, .invokevirtual 118, 3), (1385, .iload 5, 2), (1387, .if_icmp .eq 5, 3), (1390, .iconst 0, 1)]
theorem dt_Law_law_c34 (i : Nat) : decode (jm_cod M_Law_law) (tab_Law_law_c34.getD i (1356, .iadd, 1)).1 = .ok ((tab_Law_law_c34.getD i (1356, .iadd, 1)).2.1, (tab_Law_law_c34.getD i (1356, .iadd, 1)).2.2) := j_tab (by decide +kernel) i
theorem d_Law_law_1356 : decode (jm_cod M_Law_law) 1356 = .ok (.iadd, 1) := dt_Law_law_c34 0
theorem d_Law_law_1357 : decode (jm_cod M_Law_law) 1357 = .ok (.iaload, 1) := dt_Law_law_c34 1
theorem d_Law_law_1358 : decode (jm_cod M_Law_law) 1358 = .ok (.aload_n 0, 1) := dt_Law_law_c34 2
theorem d_Law_law_1359 : decode (jm_cod M_Law_law) 1359 = .ok (.iload 4, 2) := dt_Law_law_c34 3
theorem d_Law_law_1361 : decode (jm_cod M_Law_law) 1361 = .ok (.iconst 2, 1) := dt_Law_law_c34 4
theorem d_Law_law_1362 : decode (jm_cod M_Law_law) 1362 = .ok (.iadd, 1) := dt_Law_law_c34 5
theorem d_Law_law_1363 : decode (jm_cod M_Law_law) 1363 = .ok (.iaload, 1) := dt_Law_law_c34 6
theorem d_Law_law_1364 : decode (jm_cod M_Law_law) 1364 = .ok (.aload_n 0, 1) := dt_Law_law_c34 7
theorem d_Law_law_1365 : decode (jm_cod M_Law_law) 1365 = .ok (.iload 4, 2) := dt_Law_law_c34 8
theorem d_Law_law_1367 : decode (jm_cod M_Law_law) 1367 = .ok (.iconst 3, 1) := dt_Law_law_c34 9
theorem d_Law_law_1368 : decode (jm_cod M_Law_law) 1368 = .ok (.iadd, 1) := dt_Law_law_c34 10
theorem d_Law_law_1369 : decode (jm_cod M_Law_law) 1369 = .ok (.iaload, 1) := dt_Law_law_c34 11
theorem d_Law_law_1370 : decode (jm_cod M_Law_law) 1370 = .ok (.aload_n 0, 1) := dt_Law_law_c34 12
theorem d_Law_law_1371 : decode (jm_cod M_Law_law) 1371 = .ok (.iload 4, 2) := dt_Law_law_c34 13
theorem d_Law_law_1373 : decode (jm_cod M_Law_law) 1373 = .ok (.iconst 4, 1) := dt_Law_law_c34 14
theorem d_Law_law_1374 : decode (jm_cod M_Law_law) 1374 = .ok (.iadd, 1) := dt_Law_law_c34 15
theorem d_Law_law_1375 : decode (jm_cod M_Law_law) 1375 = .ok (.iaload, 1) := dt_Law_law_c34 16
theorem d_Law_law_1376 : decode (jm_cod M_Law_law) 1376 = .ok (.invokevirtual 174, 3) := dt_Law_law_c34 17
theorem d_Law_law_1379 : decode (jm_cod M_Law_law) 1379 = .ok (.istore 6, 2) := dt_Law_law_c34 18
theorem d_Law_law_1381 : decode (jm_cod M_Law_law) 1381 = .ok (.aload_n 2, 1) := dt_Law_law_c34 19
theorem d_Law_law_1382 : decode (jm_cod M_Law_law) 1382 = .ok (.invokevirtual 118, 3) := dt_Law_law_c34 20
theorem d_Law_law_1385 : decode (jm_cod M_Law_law) 1385 = .ok (.iload 5, 2) := dt_Law_law_c34 21
theorem d_Law_law_1387 : decode (jm_cod M_Law_law) 1387 = .ok (.if_icmp .eq 5, 3) := dt_Law_law_c34 22
theorem d_Law_law_1390 : decode (jm_cod M_Law_law) 1390 = .ok (.iconst 0, 1) := dt_Law_law_c34 23
def tab_Law_law_c35 : List (Nat × Instr × Nat) := [(1391, .ireturn, 1), (1392, .iload 5, 2), (1394, .ifCond .ne 15, 3), (1397, .aload_n 3, 1), (1398, .iconst 0, 1), (1399, .laload, 1), (1400, .iload 6, 2), (1402, .i2l, 1), (1403, .lcmp, 1), (1404, .ifCond .eq 5, 3), (1407, .iconst 0, 1), (1408, .ireturn, 1), (1409, .goto 612, 3), (1412, .aload_n 1, 1), (1413, .aload_n 0, 1), (1414, .iload 4, 2), (1416, .iconst 1, 1), (1417, .iadd, 1), (1418, .iaload, 1), (1419, .aload_n 0, 1), (1420, .iload 4, 2), (1422, .iconst 2, 1), (1423, .iadd, 1), (1424, .iaload, 1)]
theorem dt_Law_law_c35 (i : Nat) : decode (jm_cod M_Law_law) (tab_Law_law_c35.getD i (1391, .ireturn, 1)).1 = .ok ((tab_Law_law_c35.getD i (1391, .ireturn, 1)).2.1, (tab_Law_law_c35.getD i (1391, .ireturn, 1)).2.2) := j_tab (by decide +kernel) i
theorem d_Law_law_1391 : decode (jm_cod M_Law_law) 1391 = .ok (.ireturn, 1) := dt_Law_law_c35 0
theorem d_Law_law_1392 : decode (jm_cod M_Law_law) 1392 = .ok (.iload 5, 2) := dt_Law_law_c35 1
theorem d_Law_law_1394 : decode (jm_cod M_Law_law) 1394 = .ok (.ifCond .ne 15, 3) := dt_Law_law_c35 2
theorem d_Law_law_1397 : decode (jm_cod M_Law_law) 1397 = .ok (.aload_n 3, 1) := dt_Law_law_c35 3
theorem d_Law_law_1398 : decode (jm_cod M_Law_law) 1398 = .ok (.iconst 0, 1) := dt_Law_law_c35 4
theorem d_Law_law_1399 : decode (jm_cod M_Law_law) 1399 = .ok (.laload, 1) := dt_Law_law_c35 5
theorem d_Law_law_1400 : decode (jm_cod M_Law_law) 1400 = .ok (.iload 6, 2) := dt_Law_law_c35 6
theorem d_Law_law_1402 : decode (jm_cod M_Law_law) 1402 = .ok (.i2l, 1) := dt_Law_law_c35 7
theorem d_Law_law_1403 : decode (jm_cod M_Law_law) 1403 = .ok (.lcmp, 1) := dt_Law_law_c35 8
theorem d_Law_law_1404 : decode (jm_cod M_Law_law) 1404 = .ok (.ifCond .eq 5, 3) := dt_Law_law_c35 9
theorem d_Law_law_1407 : decode (jm_cod M_Law_law) 1407 = .ok (.iconst 0, 1) := dt_Law_law_c35 10
theorem d_Law_law_1408 : decode (jm_cod M_Law_law) 1408 = .ok (.ireturn, 1) := dt_Law_law_c35 11
theorem d_Law_law_1409 : decode (jm_cod M_Law_law) 1409 = .ok (.goto 612, 3) := dt_Law_law_c35 12
theorem d_Law_law_1412 : decode (jm_cod M_Law_law) 1412 = .ok (.aload_n 1, 1) := dt_Law_law_c35 13
theorem d_Law_law_1413 : decode (jm_cod M_Law_law) 1413 = .ok (.aload_n 0, 1) := dt_Law_law_c35 14
theorem d_Law_law_1414 : decode (jm_cod M_Law_law) 1414 = .ok (.iload 4, 2) := dt_Law_law_c35 15
theorem d_Law_law_1416 : decode (jm_cod M_Law_law) 1416 = .ok (.iconst 1, 1) := dt_Law_law_c35 16
theorem d_Law_law_1417 : decode (jm_cod M_Law_law) 1417 = .ok (.iadd, 1) := dt_Law_law_c35 17
theorem d_Law_law_1418 : decode (jm_cod M_Law_law) 1418 = .ok (.iaload, 1) := dt_Law_law_c35 18
theorem d_Law_law_1419 : decode (jm_cod M_Law_law) 1419 = .ok (.aload_n 0, 1) := dt_Law_law_c35 19
theorem d_Law_law_1420 : decode (jm_cod M_Law_law) 1420 = .ok (.iload 4, 2) := dt_Law_law_c35 20
theorem d_Law_law_1422 : decode (jm_cod M_Law_law) 1422 = .ok (.iconst 2, 1) := dt_Law_law_c35 21
theorem d_Law_law_1423 : decode (jm_cod M_Law_law) 1423 = .ok (.iadd, 1) := dt_Law_law_c35 22
theorem d_Law_law_1424 : decode (jm_cod M_Law_law) 1424 = .ok (.iaload, 1) := dt_Law_law_c35 23
def tab_Law_law_c36 : List (Nat × Instr × Nat) := [(1425, .aload_n 0, 1), (1426, .iload 4, 2), (1428, .iconst 3, 1), (1429, .iadd, 1), (1430, .iaload, 1), (1431, .aload_n 3, 1), (1432, .invokestatic 175, 3), (1435, .istore 5, 2), (1437, .aload_n 2, 1), (1438, .aload_n 0, 1), (1439, .iload 4, 2), (1441, .iconst 1, 1), (1442, .iadd, 1), (1443, .iaload, 1), (1444, .aload_n 0, 1), (1445, .iload 4, 2), (1447, .iconst 2, 1), (1448, .iadd, 1), (1449, .iaload, 1), (1450, .aload_n 0, 1), (1451, .iload 4, 2), (1453, .iconst 3, 1), (1454, .iadd, 1), (1455, .iaload, 1)]
theorem dt_Law_law_c36 (i : Nat) : decode (jm_cod M_Law_law) (tab_Law_law_c36.getD i (1425, .aload_n 0, 1)).1 = .ok ((tab_Law_law_c36.getD i (1425, .aload_n 0, 1)).2.1, (tab_Law_law_c36.getD i (1425, .aload_n 0, 1)).2.2) := j_tab (by decide +kernel) i
theorem d_Law_law_1425 : decode (jm_cod M_Law_law) 1425 = .ok (.aload_n 0, 1) := dt_Law_law_c36 0
theorem d_Law_law_1426 : decode (jm_cod M_Law_law) 1426 = .ok (.iload 4, 2) := dt_Law_law_c36 1
theorem d_Law_law_1428 : decode (jm_cod M_Law_law) 1428 = .ok (.iconst 3, 1) := dt_Law_law_c36 2
theorem d_Law_law_1429 : decode (jm_cod M_Law_law) 1429 = .ok (.iadd, 1) := dt_Law_law_c36 3
theorem d_Law_law_1430 : decode (jm_cod M_Law_law) 1430 = .ok (.iaload, 1) := dt_Law_law_c36 4
theorem d_Law_law_1431 : decode (jm_cod M_Law_law) 1431 = .ok (.aload_n 3, 1) := dt_Law_law_c36 5
theorem d_Law_law_1432 : decode (jm_cod M_Law_law) 1432 = .ok (.invokestatic 175, 3) := dt_Law_law_c36 6
theorem d_Law_law_1435 : decode (jm_cod M_Law_law) 1435 = .ok (.istore 5, 2) := dt_Law_law_c36 7
theorem d_Law_law_1437 : decode (jm_cod M_Law_law) 1437 = .ok (.aload_n 2, 1) := dt_Law_law_c36 8
theorem d_Law_law_1438 : decode (jm_cod M_Law_law) 1438 = .ok (.aload_n 0, 1) := dt_Law_law_c36 9
theorem d_Law_law_1439 : decode (jm_cod M_Law_law) 1439 = .ok (.iload 4, 2) := dt_Law_law_c36 10
theorem d_Law_law_1441 : decode (jm_cod M_Law_law) 1441 = .ok (.iconst 1, 1) := dt_Law_law_c36 11
theorem d_Law_law_1442 : decode (jm_cod M_Law_law) 1442 = .ok (.iadd, 1) := dt_Law_law_c36 12
theorem d_Law_law_1443 : decode (jm_cod M_Law_law) 1443 = .ok (.iaload, 1) := dt_Law_law_c36 13
theorem d_Law_law_1444 : decode (jm_cod M_Law_law) 1444 = .ok (.aload_n 0, 1) := dt_Law_law_c36 14
theorem d_Law_law_1445 : decode (jm_cod M_Law_law) 1445 = .ok (.iload 4, 2) := dt_Law_law_c36 15
theorem d_Law_law_1447 : decode (jm_cod M_Law_law) 1447 = .ok (.iconst 2, 1) := dt_Law_law_c36 16
theorem d_Law_law_1448 : decode (jm_cod M_Law_law) 1448 = .ok (.iadd, 1) := dt_Law_law_c36 17
theorem d_Law_law_1449 : decode (jm_cod M_Law_law) 1449 = .ok (.iaload, 1) := dt_Law_law_c36 18
theorem d_Law_law_1450 : decode (jm_cod M_Law_law) 1450 = .ok (.aload_n 0, 1) := dt_Law_law_c36 19
theorem d_Law_law_1451 : decode (jm_cod M_Law_law) 1451 = .ok (.iload 4, 2) := dt_Law_law_c36 20
theorem d_Law_law_1453 : decode (jm_cod M_Law_law) 1453 = .ok (.iconst 3, 1) := dt_Law_law_c36 21
theorem d_Law_law_1454 : decode (jm_cod M_Law_law) 1454 = .ok (.iadd, 1) := dt_Law_law_c36 22
theorem d_Law_law_1455 : decode (jm_cod M_Law_law) 1455 = .ok (.iaload, 1) := dt_Law_law_c36 23
def tab_Law_law_c37 : List (Nat × Instr × Nat) := [(1456, .invokevirtual 177, 3), (1459, .lstore 6, 2), (1461, .aload_n 2, 1), (1462, .invokevirtual 118, 3), (1465, .iload 5, 2), (1467, .if_icmp .eq 5, 3), (1470, .iconst 0, 1), (1471, .ireturn, 1), (1472, .iload 5, 2), (1474, .ifCond .ne 14, 3), (1477, .aload_n 3, 1), (1478, .iconst 0, 1), (1479, .laload, 1), (1480, .lload 6, 2), (1482, .lcmp, 1), (1483, .ifCond .eq 5, 3), (1486, .iconst 0, 1), (1487, .ireturn, 1), (1488, .goto 533, 3), (1491, .aload_n 1, 1), (1492, .aload_n 0, 1), (1493, .iload 4, 2), (1495, .iconst 1, 1), (1496, .iadd, 1)]
theorem dt_Law_law_c37 (i : Nat) : decode (jm_cod M_Law_law) (tab_Law_law_c37.getD i (1456, .invokevirtual 177, 3)).1 = .ok ((tab_Law_law_c37.getD i (1456, .invokevirtual 177, 3)).2.1, (tab_Law_law_c37.getD i (1456, .invokevirtual 177, 3)).2.2) := j_tab (by decide +kernel) i
theorem d_Law_law_1456 : decode (jm_cod M_Law_law) 1456 = .ok (.invokevirtual 177, 3) := dt_Law_law_c37 0
theorem d_Law_law_1459 : decode (jm_cod M_Law_law) 1459 = .ok (.lstore 6, 2) := dt_Law_law_c37 1
theorem d_Law_law_1461 : decode (jm_cod M_Law_law) 1461 = .ok (.aload_n 2, 1) := dt_Law_law_c37 2
theorem d_Law_law_1462 : decode (jm_cod M_Law_law) 1462 = .ok (.invokevirtual 118, 3) := dt_Law_law_c37 3
theorem d_Law_law_1465 : decode (jm_cod M_Law_law) 1465 = .ok (.iload 5, 2) := dt_Law_law_c37 4
theorem d_Law_law_1467 : decode (jm_cod M_Law_law) 1467 = .ok (.if_icmp .eq 5, 3) := dt_Law_law_c37 5
theorem d_Law_law_1470 : decode (jm_cod M_Law_law) 1470 = .ok (.iconst 0, 1) := dt_Law_law_c37 6
theorem d_Law_law_1471 : decode (jm_cod M_Law_law) 1471 = .ok (.ireturn, 1) := dt_Law_law_c37 7
theorem d_Law_law_1472 : decode (jm_cod M_Law_law) 1472 = .ok (.iload 5, 2) := dt_Law_law_c37 8
theorem d_Law_law_1474 : decode (jm_cod M_Law_law) 1474 = .ok (.ifCond .ne 14, 3) := dt_Law_law_c37 9
theorem d_Law_law_1477 : decode (jm_cod M_Law_law) 1477 = .ok (.aload_n 3, 1) := dt_Law_law_c37 10
theorem d_Law_law_1478 : decode (jm_cod M_Law_law) 1478 = .ok (.iconst 0, 1) := dt_Law_law_c37 11
theorem d_Law_law_1479 : decode (jm_cod M_Law_law) 1479 = .ok (.laload, 1) := dt_Law_law_c37 12
theorem d_Law_law_1480 : decode (jm_cod M_Law_law) 1480 = .ok (.lload 6, 2) := dt_Law_law_c37 13
theorem d_Law_law_1482 : decode (jm_cod M_Law_law) 1482 = .ok (.lcmp, 1) := dt_Law_law_c37 14
theorem d_Law_law_1483 : decode (jm_cod M_Law_law) 1483 = .ok (.ifCond .eq 5, 3) := dt_Law_law_c37 15
theorem d_Law_law_1486 : decode (jm_cod M_Law_law) 1486 = .ok (.iconst 0, 1) := dt_Law_law_c37 16
theorem d_Law_law_1487 : decode (jm_cod M_Law_law) 1487 = .ok (.ireturn, 1) := dt_Law_law_c37 17
theorem d_Law_law_1488 : decode (jm_cod M_Law_law) 1488 = .ok (.goto 533, 3) := dt_Law_law_c37 18
theorem d_Law_law_1491 : decode (jm_cod M_Law_law) 1491 = .ok (.aload_n 1, 1) := dt_Law_law_c37 19
theorem d_Law_law_1492 : decode (jm_cod M_Law_law) 1492 = .ok (.aload_n 0, 1) := dt_Law_law_c37 20
theorem d_Law_law_1493 : decode (jm_cod M_Law_law) 1493 = .ok (.iload 4, 2) := dt_Law_law_c37 21
theorem d_Law_law_1495 : decode (jm_cod M_Law_law) 1495 = .ok (.iconst 1, 1) := dt_Law_law_c37 22
theorem d_Law_law_1496 : decode (jm_cod M_Law_law) 1496 = .ok (.iadd, 1) := dt_Law_law_c37 23
def tab_Law_law_c38 : List (Nat × Instr × Nat) := [(1497, .iaload, 1), (1498, .aload_n 0, 1), (1499, .iload 4, 2), (1501, .iconst 2, 1), (1502, .iadd, 1), (1503, .iaload, 1), (1504, .aload_n 0, 1), (1505, .iload 4, 2), (1507, .iconst 3, 1), (1508, .iadd, 1), (1509, .iaload, 1), (1510, .aload_n 3, 1), (1511, .invokestatic 178, 3), (1514, .istore 5, 2), (1516, .aload_n 2, 1), (1517, .aload_n 0, 1), (1518, .iload 4, 2), (1520, .iconst 1, 1), (1521, .iadd, 1), (1522, .iaload, 1), (1523, .aload_n 0, 1), (1524, .iload 4, 2), (1526, .iconst 2, 1), (1527, .iadd, 1)]
theorem dt_Law_law_c38 (i : Nat) : decode (jm_cod M_Law_law) (tab_Law_law_c38.getD i (1497, .iaload, 1)).1 = .ok ((tab_Law_law_c38.getD i (1497, .iaload, 1)).2.1, (tab_Law_law_c38.getD i (1497, .iaload, 1)).2.2) := j_tab (by decide +kernel) i
theorem d_Law_law_1497 : decode (jm_cod M_Law_law) 1497 = .ok (.iaload, 1) := dt_Law_law_c38 0
theorem d_Law_law_1498 : decode (jm_cod M_Law_law) 1498 = .ok (.aload_n 0, 1) := dt_Law_law_c38 1
theorem d_Law_law_1499 : decode (jm_cod M_Law_law) 1499 = .ok (.iload 4, 2) := dt_Law_law_c38 2
theorem d_Law_law_1501 : decode (jm_cod M_Law_law) 1501 = .ok (.iconst 2, 1) := dt_Law_law_c38 3
theorem d_Law_law_1502 : decode (jm_cod M_Law_law) 1502 = .ok (.iadd, 1) := dt_Law_law_c38 4
theorem d_Law_law_1503 : decode (jm_cod M_Law_law) 1503 = .ok (.iaload, 1) := dt_Law_law_c38 5
theorem d_Law_law_1504 : decode (jm_cod M_Law_law) 1504 = .ok (.aload_n 0, 1) := dt_Law_law_c38 6
theorem d_Law_law_1505 : decode (jm_cod M_Law_law) 1505 = .ok (.iload 4, 2) := dt_Law_law_c38 7
theorem d_Law_law_1507 : decode (jm_cod M_Law_law) 1507 = .ok (.iconst 3, 1) := dt_Law_law_c38 8
theorem d_Law_law_1508 : decode (jm_cod M_Law_law) 1508 = .ok (.iadd, 1) := dt_Law_law_c38 9
theorem d_Law_law_1509 : decode (jm_cod M_Law_law) 1509 = .ok (.iaload, 1) := dt_Law_law_c38 10
theorem d_Law_law_1510 : decode (jm_cod M_Law_law) 1510 = .ok (.aload_n 3, 1) := dt_Law_law_c38 11
theorem d_Law_law_1511 : decode (jm_cod M_Law_law) 1511 = .ok (.invokestatic 178, 3) := dt_Law_law_c38 12
theorem d_Law_law_1514 : decode (jm_cod M_Law_law) 1514 = .ok (.istore 5, 2) := dt_Law_law_c38 13
theorem d_Law_law_1516 : decode (jm_cod M_Law_law) 1516 = .ok (.aload_n 2, 1) := dt_Law_law_c38 14
theorem d_Law_law_1517 : decode (jm_cod M_Law_law) 1517 = .ok (.aload_n 0, 1) := dt_Law_law_c38 15
theorem d_Law_law_1518 : decode (jm_cod M_Law_law) 1518 = .ok (.iload 4, 2) := dt_Law_law_c38 16
theorem d_Law_law_1520 : decode (jm_cod M_Law_law) 1520 = .ok (.iconst 1, 1) := dt_Law_law_c38 17
theorem d_Law_law_1521 : decode (jm_cod M_Law_law) 1521 = .ok (.iadd, 1) := dt_Law_law_c38 18
theorem d_Law_law_1522 : decode (jm_cod M_Law_law) 1522 = .ok (.iaload, 1) := dt_Law_law_c38 19
theorem d_Law_law_1523 : decode (jm_cod M_Law_law) 1523 = .ok (.aload_n 0, 1) := dt_Law_law_c38 20
theorem d_Law_law_1524 : decode (jm_cod M_Law_law) 1524 = .ok (.iload 4, 2) := dt_Law_law_c38 21
theorem d_Law_law_1526 : decode (jm_cod M_Law_law) 1526 = .ok (.iconst 2, 1) := dt_Law_law_c38 22
theorem d_Law_law_1527 : decode (jm_cod M_Law_law) 1527 = .ok (.iadd, 1) := dt_Law_law_c38 23
def tab_Law_law_c39 : List (Nat × Instr × Nat) := [(1528, .iaload, 1), (1529, .aload_n 0, 1), (1530, .iload 4, 2), (1532, .iconst 3, 1), (1533, .iadd, 1), (1534, .iaload, 1), (1535, .invokevirtual 180, 3), (1538, .istore 6, 2), (1540, .aload_n 2, 1), (1541, .invokevirtual 118, 3), (1544, .iload 5, 2), (1546, .if_icmp .eq 5, 3), (1549, .iconst 0, 1), (1550, .ireturn, 1), (1551, .iload 5, 2), (1553, .ifCond .ne 15, 3), (1556, .aload_n 3, 1), (1557, .iconst 0, 1), (1558, .laload, 1), (1559, .iload 6, 2), (1561, .i2l, 1), (1562, .lcmp, 1), (1563, .ifCond .eq 5, 3), (1566, .iconst 0, 1)]
theorem dt_Law_law_c39 (i : Nat) : decode (jm_cod M_Law_law) (tab_Law_law_c39.getD i (1528, .iaload, 1)).1 = .ok ((tab_Law_law_c39.getD i (1528, .iaload, 1)).2.1, (tab_Law_law_c39.getD i (1528, .iaload, 1)).2.2) := j_tab (by decide +kernel) i
theorem d_Law_law_1528 : decode (jm_cod M_Law_law) 1528 = .ok (.iaload, 1) := dt_Law_law_c39 0
theorem d_Law_law_1529 : decode (jm_cod M_Law_law) 1529 = .ok (.aload_n 0, 1) := dt_Law_law_c39 1
theorem d_Law_law_1530 : decode (jm_cod M_Law_law) 1530 = .ok (.iload 4, 2) := dt_Law_law_c39 2
theorem d_Law_law_1532 : decode (jm_cod M_Law_law) 1532 = .ok (.iconst 3, 1) := dt_Law_law_c39 3
theorem d_Law_law_1533 : decode (jm_cod M_Law_law) 1533 = .ok (.iadd, 1) := dt_Law_law_c39 4
theorem d_Law_law_1534 : decode (jm_cod M_Law_law) 1534 = .ok (.iaload, 1) := dt_Law_law_c39 5
theorem d_Law_law_1535 : decode (jm_cod M_Law_law) 1535 = .ok (.invokevirtual 180, 3) := dt_Law_law_c39 6
theorem d_Law_law_1538 : decode (jm_cod M_Law_law) 1538 = .ok (.istore 6, 2) := dt_Law_law_c39 7
theorem d_Law_law_1540 : decode (jm_cod M_Law_law) 1540 = .ok (.aload_n 2, 1) := dt_Law_law_c39 8
theorem d_Law_law_1541 : decode (jm_cod M_Law_law) 1541 = .ok (.invokevirtual 118, 3) := dt_Law_law_c39 9
theorem d_Law_law_1544 : decode (jm_cod M_Law_law) 1544 = .ok (.iload 5, 2) := dt_Law_law_c39 10
theorem d_Law_law_1546 : decode (jm_cod M_Law_law) 1546 = .ok (.if_icmp .eq 5, 3) := dt_Law_law_c39 11
theorem d_Law_law_1549 : decode (jm_cod M_Law_law) 1549 = .ok (.iconst 0, 1) := dt_Law_law_c39 12
theorem d_Law_law_1550 : decode (jm_cod M_Law_law) 1550 = .ok (.ireturn, 1) := dt_Law_law_c39 13
theorem d_Law_law_1551 : decode (jm_cod M_Law_law) 1551 = .ok (.iload 5, 2) := dt_Law_law_c39 14
theorem d_Law_law_1553 : decode (jm_cod M_Law_law) 1553 = .ok (.ifCond .ne 15, 3) := dt_Law_law_c39 15
theorem d_Law_law_1556 : decode (jm_cod M_Law_law) 1556 = .ok (.aload_n 3, 1) := dt_Law_law_c39 16
theorem d_Law_law_1557 : decode (jm_cod M_Law_law) 1557 = .ok (.iconst 0, 1) := dt_Law_law_c39 17
theorem d_Law_law_1558 : decode (jm_cod M_Law_law) 1558 = .ok (.laload, 1) := dt_Law_law_c39 18
theorem d_Law_law_1559 : decode (jm_cod M_Law_law) 1559 = .ok (.iload 6, 2) := dt_Law_law_c39 19
theorem d_Law_law_1561 : decode (jm_cod M_Law_law) 1561 = .ok (.i2l, 1) := dt_Law_law_c39 20
theorem d_Law_law_1562 : decode (jm_cod M_Law_law) 1562 = .ok (.lcmp, 1) := dt_Law_law_c39 21
theorem d_Law_law_1563 : decode (jm_cod M_Law_law) 1563 = .ok (.ifCond .eq 5, 3) := dt_Law_law_c39 22
theorem d_Law_law_1566 : decode (jm_cod M_Law_law) 1566 = .ok (.iconst 0, 1) := dt_Law_law_c39 23
def tab_Law_law_c40 : List (Nat × Instr × Nat) := [(1567, .ireturn, 1), (1568, .goto 453, 3), (1571, .aload_n 1, 1), (1572, .aload_n 0, 1), (1573, .iload 4, 2), (1575, .iconst 1, 1), (1576, .iadd, 1), (1577, .iaload, 1), (1578, .aload_n 0, 1), (1579, .iload 4, 2), (1581, .iconst 2, 1), (1582, .iadd, 1), (1583, .iaload, 1), (1584, .aload_n 3, 1), (1585, .invokestatic 181, 3), (1588, .istore 5, 2), (1590, .aload_n 2, 1), (1591, .aload_n 0, 1), (1592, .iload 4, 2), (1594, .iconst 1, 1), (1595, .iadd, 1), (1596, .iaload, 1), (1597, .aload_n 0, 1), (1598, .iload 4, 2)]
theorem dt_Law_law_c40 (i : Nat) : decode (jm_cod M_Law_law) (tab_Law_law_c40.getD i (1567, .ireturn, 1)).1 = .ok ((tab_Law_law_c40.getD i (1567, .ireturn, 1)).2.1, (tab_Law_law_c40.getD i (1567, .ireturn, 1)).2.2) := j_tab (by decide +kernel) i
theorem d_Law_law_1567 : decode (jm_cod M_Law_law) 1567 = .ok (.ireturn, 1) := dt_Law_law_c40 0
theorem d_Law_law_1568 : decode (jm_cod M_Law_law) 1568 = .ok (.goto 453, 3) := dt_Law_law_c40 1
theorem d_Law_law_1571 : decode (jm_cod M_Law_law) 1571 = .ok (.aload_n 1, 1) := dt_Law_law_c40 2
theorem d_Law_law_1572 : decode (jm_cod M_Law_law) 1572 = .ok (.aload_n 0, 1) := dt_Law_law_c40 3
theorem d_Law_law_1573 : decode (jm_cod M_Law_law) 1573 = .ok (.iload 4, 2) := dt_Law_law_c40 4
theorem d_Law_law_1575 : decode (jm_cod M_Law_law) 1575 = .ok (.iconst 1, 1) := dt_Law_law_c40 5
theorem d_Law_law_1576 : decode (jm_cod M_Law_law) 1576 = .ok (.iadd, 1) := dt_Law_law_c40 6
theorem d_Law_law_1577 : decode (jm_cod M_Law_law) 1577 = .ok (.iaload, 1) := dt_Law_law_c40 7
theorem d_Law_law_1578 : decode (jm_cod M_Law_law) 1578 = .ok (.aload_n 0, 1) := dt_Law_law_c40 8
theorem d_Law_law_1579 : decode (jm_cod M_Law_law) 1579 = .ok (.iload 4, 2) := dt_Law_law_c40 9
theorem d_Law_law_1581 : decode (jm_cod M_Law_law) 1581 = .ok (.iconst 2, 1) := dt_Law_law_c40 10
theorem d_Law_law_1582 : decode (jm_cod M_Law_law) 1582 = .ok (.iadd, 1) := dt_Law_law_c40 11
theorem d_Law_law_1583 : decode (jm_cod M_Law_law) 1583 = .ok (.iaload, 1) := dt_Law_law_c40 12
theorem d_Law_law_1584 : decode (jm_cod M_Law_law) 1584 = .ok (.aload_n 3, 1) := dt_Law_law_c40 13
theorem d_Law_law_1585 : decode (jm_cod M_Law_law) 1585 = .ok (.invokestatic 181, 3) := dt_Law_law_c40 14
theorem d_Law_law_1588 : decode (jm_cod M_Law_law) 1588 = .ok (.istore 5, 2) := dt_Law_law_c40 15
theorem d_Law_law_1590 : decode (jm_cod M_Law_law) 1590 = .ok (.aload_n 2, 1) := dt_Law_law_c40 16
theorem d_Law_law_1591 : decode (jm_cod M_Law_law) 1591 = .ok (.aload_n 0, 1) := dt_Law_law_c40 17
theorem d_Law_law_1592 : decode (jm_cod M_Law_law) 1592 = .ok (.iload 4, 2) := dt_Law_law_c40 18
theorem d_Law_law_1594 : decode (jm_cod M_Law_law) 1594 = .ok (.iconst 1, 1) := dt_Law_law_c40 19
theorem d_Law_law_1595 : decode (jm_cod M_Law_law) 1595 = .ok (.iadd, 1) := dt_Law_law_c40 20
theorem d_Law_law_1596 : decode (jm_cod M_Law_law) 1596 = .ok (.iaload, 1) := dt_Law_law_c40 21
theorem d_Law_law_1597 : decode (jm_cod M_Law_law) 1597 = .ok (.aload_n 0, 1) := dt_Law_law_c40 22
theorem d_Law_law_1598 : decode (jm_cod M_Law_law) 1598 = .ok (.iload 4, 2) := dt_Law_law_c40 23
