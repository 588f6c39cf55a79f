def tab_UnderWay_init_c0 : List (Nat × Instr × Nat) := [(0, .aload_n 0, 1), (1, .invokespecial 3, 3), (4, .aload_n 0, 1), (5, .bipush 8, 2), (7, .newarray .int, 2), (9, .putfield 9, 3), (12, .aload_n 0, 1), (13, .bipush 8, 2), (15, .newarray .int, 2), (17, .putfield 15, 3), (20, .aload_n 0, 1), (21, .bipush 8, 2), (23, .newarray .int, 2), (25, .putfield 18, 3), (28, .aload_n 0, 1), (29, .bipush 8, 2), (31, .newarray .int, 2), (33, .putfield 21, 3), (36, .return_, 1)]
theorem dt_UnderWay_init_c0 (i : Nat) : decode (jm_cod M_UnderWay_init) (tab_UnderWay_init_c0.getD i (0, .aload_n 0, 1)).1 = .ok ((tab_UnderWay_init_c0.getD i (0, .aload_n 0, 1)).2.1, (tab_UnderWay_init_c0.getD i (0, .aload_n 0, 1)).2.2) := j_tab (by decide +kernel) i
theorem d_UnderWay_init_0 : decode (jm_cod M_UnderWay_init) 0 = .ok (.aload_n 0, 1) := dt_UnderWay_init_c0 0
theorem d_UnderWay_init_1 : decode (jm_cod M_UnderWay_init) 1 = .ok (.invokespecial 3, 3) := dt_UnderWay_init_c0 1
theorem d_UnderWay_init_4 : decode (jm_cod M_UnderWay_init) 4 = .ok (.aload_n 0, 1) := dt_UnderWay_init_c0 2
theorem d_UnderWay_init_5 : decode (jm_cod M_UnderWay_init) 5 = .ok (.bipush 8, 2) := dt_UnderWay_init_c0 3
theorem d_UnderWay_init_7 : decode (jm_cod M_UnderWay_init) 7 = .ok (.newarray .int, 2) := dt_UnderWay_init_c0 4
theorem d_UnderWay_init_9 : decode (jm_cod M_UnderWay_init) 9 = .ok (.putfield 9, 3) := dt_UnderWay_init_c0 5
theorem d_UnderWay_init_12 : decode (jm_cod M_UnderWay_init) 12 = .ok (.aload_n 0, 1) := dt_UnderWay_init_c0 6
theorem d_UnderWay_init_13 : decode (jm_cod M_UnderWay_init) 13 = .ok (.bipush 8, 2) := dt_UnderWay_init_c0 7
theorem d_UnderWay_init_15 : decode (jm_cod M_UnderWay_init) 15 = .ok (.newarray .int, 2) := dt_UnderWay_init_c0 8
theorem d_UnderWay_init_17 : decode (jm_cod M_UnderWay_init) 17 = .ok (.putfield 15, 3) := dt_UnderWay_init_c0 9
theorem d_UnderWay_init_20 : decode (jm_cod M_UnderWay_init) 20 = .ok (.aload_n 0, 1) := dt_UnderWay_init_c0 10
theorem d_UnderWay_init_21 : decode (jm_cod M_UnderWay_init) 21 = .ok (.bipush 8, 2) := dt_UnderWay_init_c0 11
theorem d_UnderWay_init_23 : decode (jm_cod M_UnderWay_init) 23 = .ok (.newarray .int, 2) := dt_UnderWay_init_c0 12
theorem d_UnderWay_init_25 : decode (jm_cod M_UnderWay_init) 25 = .ok (.putfield 18, 3) := dt_UnderWay_init_c0 13
theorem d_UnderWay_init_28 : decode (jm_cod M_UnderWay_init) 28 = .ok (.aload_n 0, 1) := dt_UnderWay_init_c0 14
theorem d_UnderWay_init_29 : decode (jm_cod M_UnderWay_init) 29 = .ok (.bipush 8, 2) := dt_UnderWay_init_c0 15
theorem d_UnderWay_init_31 : decode (jm_cod M_UnderWay_init) 31 = .ok (.newarray .int, 2) := dt_UnderWay_init_c0 16
theorem d_UnderWay_init_33 : decode (jm_cod M_UnderWay_init) 33 = .ok (.putfield 21, 3) := dt_UnderWay_init_c0 17
theorem d_UnderWay_init_36 : decode (jm_cod M_UnderWay_init) 36 = .ok (.return_, 1) := dt_UnderWay_init_c0 18
def tab_UnderWay_mayGo_c0 : List (Nat × Instr × Nat) := [(0, .aload_n 0, 1), (1, .getfield 24, 3), (4, .iload_n 3, 1), (5, .if_icmp .ge 12, 3), (8, .aload_n 0, 1), (9, .getfield 24, 3), (12, .bipush 8, 2), (14, .if_icmp .lt 5, 3), (17, .iconst 0, 1), (18, .ireturn, 1), (19, .iconst 0, 1), (20, .istore 4, 2), (22, .iload 4, 2), (24, .aload_n 0, 1), (25, .getfield 24, 3), (28, .if_icmp .ge 43, 3), (31, .aload_n 0, 1), (32, .getfield 15, 3), (35, .iload 4, 2), (37, .iaload, 1), (38, .iload_n 2, 1), (39, .if_icmp .eq 26, 3), (42, .aload_n 0, 1), (43, .getfield 9, 3)]
theorem dt_UnderWay_mayGo_c0 (i : Nat) : decode (jm_cod M_UnderWay_mayGo) (tab_UnderWay_mayGo_c0.getD i (0, .aload_n 0, 1)).1 = .ok ((tab_UnderWay_mayGo_c0.getD i (0, .aload_n 0, 1)).2.1, (tab_UnderWay_mayGo_c0.getD i (0, .aload_n 0, 1)).2.2) := j_tab (by decide +kernel) i
theorem d_UnderWay_mayGo_0 : decode (jm_cod M_UnderWay_mayGo) 0 = .ok (.aload_n 0, 1) := dt_UnderWay_mayGo_c0 0
theorem d_UnderWay_mayGo_1 : decode (jm_cod M_UnderWay_mayGo) 1 = .ok (.getfield 24, 3) := dt_UnderWay_mayGo_c0 1
theorem d_UnderWay_mayGo_4 : decode (jm_cod M_UnderWay_mayGo) 4 = .ok (.iload_n 3, 1) := dt_UnderWay_mayGo_c0 2
theorem d_UnderWay_mayGo_5 : decode (jm_cod M_UnderWay_mayGo) 5 = .ok (.if_icmp .ge 12, 3) := dt_UnderWay_mayGo_c0 3
theorem d_UnderWay_mayGo_8 : decode (jm_cod M_UnderWay_mayGo) 8 = .ok (.aload_n 0, 1) := dt_UnderWay_mayGo_c0 4
theorem d_UnderWay_mayGo_9 : decode (jm_cod M_UnderWay_mayGo) 9 = .ok (.getfield 24, 3) := dt_UnderWay_mayGo_c0 5
theorem d_UnderWay_mayGo_12 : decode (jm_cod M_UnderWay_mayGo) 12 = .ok (.bipush 8, 2) := dt_UnderWay_mayGo_c0 6
theorem d_UnderWay_mayGo_14 : decode (jm_cod M_UnderWay_mayGo) 14 = .ok (.if_icmp .lt 5, 3) := dt_UnderWay_mayGo_c0 7
theorem d_UnderWay_mayGo_17 : decode (jm_cod M_UnderWay_mayGo) 17 = .ok (.iconst 0, 1) := dt_UnderWay_mayGo_c0 8
theorem d_UnderWay_mayGo_18 : decode (jm_cod M_UnderWay_mayGo) 18 = .ok (.ireturn, 1) := dt_UnderWay_mayGo_c0 9
theorem d_UnderWay_mayGo_19 : decode (jm_cod M_UnderWay_mayGo) 19 = .ok (.iconst 0, 1) := dt_UnderWay_mayGo_c0 10
theorem d_UnderWay_mayGo_20 : decode (jm_cod M_UnderWay_mayGo) 20 = .ok (.istore 4, 2) := dt_UnderWay_mayGo_c0 11
theorem d_UnderWay_mayGo_22 : decode (jm_cod M_UnderWay_mayGo) 22 = .ok (.iload 4, 2) := dt_UnderWay_mayGo_c0 12
theorem d_UnderWay_mayGo_24 : decode (jm_cod M_UnderWay_mayGo) 24 = .ok (.aload_n 0, 1) := dt_UnderWay_mayGo_c0 13
theorem d_UnderWay_mayGo_25 : decode (jm_cod M_UnderWay_mayGo) 25 = .ok (.getfield 24, 3) := dt_UnderWay_mayGo_c0 14
theorem d_UnderWay_mayGo_28 : decode (jm_cod M_UnderWay_mayGo) 28 = .ok (.if_icmp .ge 43, 3) := dt_UnderWay_mayGo_c0 15
theorem d_UnderWay_mayGo_31 : decode (jm_cod M_UnderWay_mayGo) 31 = .ok (.aload_n 0, 1) := dt_UnderWay_mayGo_c0 16
theorem d_UnderWay_mayGo_32 : decode (jm_cod M_UnderWay_mayGo) 32 = .ok (.getfield 15, 3) := dt_UnderWay_mayGo_c0 17
theorem d_UnderWay_mayGo_35 : decode (jm_cod M_UnderWay_mayGo) 35 = .ok (.iload 4, 2) := dt_UnderWay_mayGo_c0 18
theorem d_UnderWay_mayGo_37 : decode (jm_cod M_UnderWay_mayGo) 37 = .ok (.iaload, 1) := dt_UnderWay_mayGo_c0 19
theorem d_UnderWay_mayGo_38 : decode (jm_cod M_UnderWay_mayGo) 38 = .ok (.iload_n 2, 1) := dt_UnderWay_mayGo_c0 20
theorem d_UnderWay_mayGo_39 : decode (jm_cod M_UnderWay_mayGo) 39 = .ok (.if_icmp .eq 26, 3) := dt_UnderWay_mayGo_c0 21
theorem d_UnderWay_mayGo_42 : decode (jm_cod M_UnderWay_mayGo) 42 = .ok (.aload_n 0, 1) := dt_UnderWay_mayGo_c0 22
theorem d_UnderWay_mayGo_43 : decode (jm_cod M_UnderWay_mayGo) 43 = .ok (.getfield 9, 3) := dt_UnderWay_mayGo_c0 23
def tab_UnderWay_mayGo_c1 : List (Nat × Instr × Nat) := [(46, .iload 4, 2), (48, .iaload, 1), (49, .iload_n 1, 1), (50, .if_icmp .eq 13, 3), (53, .aload_n 0, 1), (54, .getfield 18, 3), (57, .iload 4, 2), (59, .iaload, 1), (60, .ifCond .le 5, 3), (63, .iconst 0, 1), (64, .ireturn, 1), (65, .iinc 4 1, 3), (68, .goto (-46), 3), (71, .iconst 1, 1), (72, .ireturn, 1)]
theorem dt_UnderWay_mayGo_c1 (i : Nat) : decode (jm_cod M_UnderWay_mayGo) (tab_UnderWay_mayGo_c1.getD i (46, .iload 4, 2)).1 = .ok ((tab_UnderWay_mayGo_c1.getD i (46, .iload 4, 2)).2.1, (tab_UnderWay_mayGo_c1.getD i (46, .iload 4, 2)).2.2) := j_tab (by decide +kernel) i
theorem d_UnderWay_mayGo_46 : decode (jm_cod M_UnderWay_mayGo) 46 = .ok (.iload 4, 2) := dt_UnderWay_mayGo_c1 0
theorem d_UnderWay_mayGo_48 : decode (jm_cod M_UnderWay_mayGo) 48 = .ok (.iaload, 1) := dt_UnderWay_mayGo_c1 1
theorem d_UnderWay_mayGo_49 : decode (jm_cod M_UnderWay_mayGo) 49 = .ok (.iload_n 1, 1) := dt_UnderWay_mayGo_c1 2
theorem d_UnderWay_mayGo_50 : decode (jm_cod M_UnderWay_mayGo) 50 = .ok (.if_icmp .eq 13, 3) := dt_UnderWay_mayGo_c1 3
theorem d_UnderWay_mayGo_53 : decode (jm_cod M_UnderWay_mayGo) 53 = .ok (.aload_n 0, 1) := dt_UnderWay_mayGo_c1 4
theorem d_UnderWay_mayGo_54 : decode (jm_cod M_UnderWay_mayGo) 54 = .ok (.getfield 18, 3) := dt_UnderWay_mayGo_c1 5
theorem d_UnderWay_mayGo_57 : decode (jm_cod M_UnderWay_mayGo) 57 = .ok (.iload 4, 2) := dt_UnderWay_mayGo_c1 6
theorem d_UnderWay_mayGo_59 : decode (jm_cod M_UnderWay_mayGo) 59 = .ok (.iaload, 1) := dt_UnderWay_mayGo_c1 7
theorem d_UnderWay_mayGo_60 : decode (jm_cod M_UnderWay_mayGo) 60 = .ok (.ifCond .le 5, 3) := dt_UnderWay_mayGo_c1 8
theorem d_UnderWay_mayGo_63 : decode (jm_cod M_UnderWay_mayGo) 63 = .ok (.iconst 0, 1) := dt_UnderWay_mayGo_c1 9
theorem d_UnderWay_mayGo_64 : decode (jm_cod M_UnderWay_mayGo) 64 = .ok (.ireturn, 1) := dt_UnderWay_mayGo_c1 10
theorem d_UnderWay_mayGo_65 : decode (jm_cod M_UnderWay_mayGo) 65 = .ok (.iinc 4 1, 3) := dt_UnderWay_mayGo_c1 11
theorem d_UnderWay_mayGo_68 : decode (jm_cod M_UnderWay_mayGo) 68 = .ok (.goto (-46), 3) := dt_UnderWay_mayGo_c1 12
theorem d_UnderWay_mayGo_71 : decode (jm_cod M_UnderWay_mayGo) 71 = .ok (.iconst 1, 1) := dt_UnderWay_mayGo_c1 13
theorem d_UnderWay_mayGo_72 : decode (jm_cod M_UnderWay_mayGo) 72 = .ok (.ireturn, 1) := dt_UnderWay_mayGo_c1 14
def tab_UnderWay_add_c0 : List (Nat × Instr × Nat) := [(0, .aload_n 0, 1), (1, .getfield 24, 3), (4, .bipush 8, 2), (6, .if_icmp .ge 54, 3), (9, .aload_n 0, 1), (10, .getfield 9, 3), (13, .aload_n 0, 1), (14, .getfield 24, 3), (17, .iload_n 1, 1), (18, .iastore, 1), (19, .aload_n 0, 1), (20, .getfield 15, 3), (23, .aload_n 0, 1), (24, .getfield 24, 3), (27, .iload_n 2, 1), (28, .iastore, 1), (29, .aload_n 0, 1), (30, .getfield 18, 3), (33, .aload_n 0, 1), (34, .getfield 24, 3), (37, .iload_n 3, 1), (38, .iastore, 1), (39, .aload_n 0, 1), (40, .getfield 21, 3)]
theorem dt_UnderWay_add_c0 (i : Nat) : decode (jm_cod M_UnderWay_add) (tab_UnderWay_add_c0.getD i (0, .aload_n 0, 1)).1 = .ok ((tab_UnderWay_add_c0.getD i (0, .aload_n 0, 1)).2.1, (tab_UnderWay_add_c0.getD i (0, .aload_n 0, 1)).2.2) := j_tab (by decide +kernel) i
theorem d_UnderWay_add_0 : decode (jm_cod M_UnderWay_add) 0 = .ok (.aload_n 0, 1) := dt_UnderWay_add_c0 0
theorem d_UnderWay_add_1 : decode (jm_cod M_UnderWay_add) 1 = .ok (.getfield 24, 3) := dt_UnderWay_add_c0 1
theorem d_UnderWay_add_4 : decode (jm_cod M_UnderWay_add) 4 = .ok (.bipush 8, 2) := dt_UnderWay_add_c0 2
theorem d_UnderWay_add_6 : decode (jm_cod M_UnderWay_add) 6 = .ok (.if_icmp .ge 54, 3) := dt_UnderWay_add_c0 3
theorem d_UnderWay_add_9 : decode (jm_cod M_UnderWay_add) 9 = .ok (.aload_n 0, 1) := dt_UnderWay_add_c0 4
theorem d_UnderWay_add_10 : decode (jm_cod M_UnderWay_add) 10 = .ok (.getfield 9, 3) := dt_UnderWay_add_c0 5
theorem d_UnderWay_add_13 : decode (jm_cod M_UnderWay_add) 13 = .ok (.aload_n 0, 1) := dt_UnderWay_add_c0 6
theorem d_UnderWay_add_14 : decode (jm_cod M_UnderWay_add) 14 = .ok (.getfield 24, 3) := dt_UnderWay_add_c0 7
theorem d_UnderWay_add_17 : decode (jm_cod M_UnderWay_add) 17 = .ok (.iload_n 1, 1) := dt_UnderWay_add_c0 8
theorem d_UnderWay_add_18 : decode (jm_cod M_UnderWay_add) 18 = .ok (.iastore, 1) := dt_UnderWay_add_c0 9
theorem d_UnderWay_add_19 : decode (jm_cod M_UnderWay_add) 19 = .ok (.aload_n 0, 1) := dt_UnderWay_add_c0 10
theorem d_UnderWay_add_20 : decode (jm_cod M_UnderWay_add) 20 = .ok (.getfield 15, 3) := dt_UnderWay_add_c0 11
theorem d_UnderWay_add_23 : decode (jm_cod M_UnderWay_add) 23 = .ok (.aload_n 0, 1) := dt_UnderWay_add_c0 12
theorem d_UnderWay_add_24 : decode (jm_cod M_UnderWay_add) 24 = .ok (.getfield 24, 3) := dt_UnderWay_add_c0 13
theorem d_UnderWay_add_27 : decode (jm_cod M_UnderWay_add) 27 = .ok (.iload_n 2, 1) := dt_UnderWay_add_c0 14
theorem d_UnderWay_add_28 : decode (jm_cod M_UnderWay_add) 28 = .ok (.iastore, 1) := dt_UnderWay_add_c0 15
theorem d_UnderWay_add_29 : decode (jm_cod M_UnderWay_add) 29 = .ok (.aload_n 0, 1) := dt_UnderWay_add_c0 16
theorem d_UnderWay_add_30 : decode (jm_cod M_UnderWay_add) 30 = .ok (.getfield 18, 3) := dt_UnderWay_add_c0 17
theorem d_UnderWay_add_33 : decode (jm_cod M_UnderWay_add) 33 = .ok (.aload_n 0, 1) := dt_UnderWay_add_c0 18
theorem d_UnderWay_add_34 : decode (jm_cod M_UnderWay_add) 34 = .ok (.getfield 24, 3) := dt_UnderWay_add_c0 19
theorem d_UnderWay_add_37 : decode (jm_cod M_UnderWay_add) 37 = .ok (.iload_n 3, 1) := dt_UnderWay_add_c0 20
theorem d_UnderWay_add_38 : decode (jm_cod M_UnderWay_add) 38 = .ok (.iastore, 1) := dt_UnderWay_add_c0 21
theorem d_UnderWay_add_39 : decode (jm_cod M_UnderWay_add) 39 = .ok (.aload_n 0, 1) := dt_UnderWay_add_c0 22
theorem d_UnderWay_add_40 : decode (jm_cod M_UnderWay_add) 40 = .ok (.getfield 21, 3) := dt_UnderWay_add_c0 23
def tab_UnderWay_add_c1 : List (Nat × Instr × Nat) := [(43, .aload_n 0, 1), (44, .getfield 24, 3), (47, .iload 4, 2), (49, .iastore, 1), (50, .aload_n 0, 1), (51, .dup, 1), (52, .getfield 24, 3), (55, .iconst 1, 1), (56, .iadd, 1), (57, .putfield 24, 3), (60, .return_, 1)]
theorem dt_UnderWay_add_c1 (i : Nat) : decode (jm_cod M_UnderWay_add) (tab_UnderWay_add_c1.getD i (43, .aload_n 0, 1)).1 = .ok ((tab_UnderWay_add_c1.getD i (43, .aload_n 0, 1)).2.1, (tab_UnderWay_add_c1.getD i (43, .aload_n 0, 1)).2.2) := j_tab (by decide +kernel) i
theorem d_UnderWay_add_43 : decode (jm_cod M_UnderWay_add) 43 = .ok (.aload_n 0, 1) := dt_UnderWay_add_c1 0
theorem d_UnderWay_add_44 : decode (jm_cod M_UnderWay_add) 44 = .ok (.getfield 24, 3) := dt_UnderWay_add_c1 1
theorem d_UnderWay_add_47 : decode (jm_cod M_UnderWay_add) 47 = .ok (.iload 4, 2) := dt_UnderWay_add_c1 2
theorem d_UnderWay_add_49 : decode (jm_cod M_UnderWay_add) 49 = .ok (.iastore, 1) := dt_UnderWay_add_c1 3
theorem d_UnderWay_add_50 : decode (jm_cod M_UnderWay_add) 50 = .ok (.aload_n 0, 1) := dt_UnderWay_add_c1 4
theorem d_UnderWay_add_51 : decode (jm_cod M_UnderWay_add) 51 = .ok (.dup, 1) := dt_UnderWay_add_c1 5
theorem d_UnderWay_add_52 : decode (jm_cod M_UnderWay_add) 52 = .ok (.getfield 24, 3) := dt_UnderWay_add_c1 6
theorem d_UnderWay_add_55 : decode (jm_cod M_UnderWay_add) 55 = .ok (.iconst 1, 1) := dt_UnderWay_add_c1 7
theorem d_UnderWay_add_56 : decode (jm_cod M_UnderWay_add) 56 = .ok (.iadd, 1) := dt_UnderWay_add_c1 8
theorem d_UnderWay_add_57 : decode (jm_cod M_UnderWay_add) 57 = .ok (.putfield 24, 3) := dt_UnderWay_add_c1 9
theorem d_UnderWay_add_60 : decode (jm_cod M_UnderWay_add) 60 = .ok (.return_, 1) := dt_UnderWay_add_c1 10
def tab_UnderWay_firstWithData_c0 : List (Nat × Instr × Nat) := [(0, .iconst 0, 1), (1, .istore_n 1, 1), (2, .iload_n 1, 1), (3, .aload_n 0, 1), (4, .getfield 24, 3), (7, .if_icmp .ge 20, 3), (10, .aload_n 0, 1), (11, .getfield 18, 3), (14, .iload_n 1, 1), (15, .iaload, 1), (16, .ifCond .le 5, 3), (19, .iload_n 1, 1), (20, .ireturn, 1), (21, .iinc 1 1, 3), (24, .goto (-22), 3), (27, .iconst (-1), 1), (28, .ireturn, 1)]
theorem dt_UnderWay_firstWithData_c0 (i : Nat) : decode (jm_cod M_UnderWay_firstWithData) (tab_UnderWay_firstWithData_c0.getD i (0, .iconst 0, 1)).1 = .ok ((tab_UnderWay_firstWithData_c0.getD i (0, .iconst 0, 1)).2.1, (tab_UnderWay_firstWithData_c0.getD i (0, .iconst 0, 1)).2.2) := j_tab (by decide +kernel) i
theorem d_UnderWay_firstWithData_0 : decode (jm_cod M_UnderWay_firstWithData) 0 = .ok (.iconst 0, 1) := dt_UnderWay_firstWithData_c0 0
theorem d_UnderWay_firstWithData_1 : decode (jm_cod M_UnderWay_firstWithData) 1 = .ok (.istore_n 1, 1) := dt_UnderWay_firstWithData_c0 1
theorem d_UnderWay_firstWithData_2 : decode (jm_cod M_UnderWay_firstWithData) 2 = .ok (.iload_n 1, 1) := dt_UnderWay_firstWithData_c0 2
theorem d_UnderWay_firstWithData_3 : decode (jm_cod M_UnderWay_firstWithData) 3 = .ok (.aload_n 0, 1) := dt_UnderWay_firstWithData_c0 3
theorem d_UnderWay_firstWithData_4 : decode (jm_cod M_UnderWay_firstWithData) 4 = .ok (.getfield 24, 3) := dt_UnderWay_firstWithData_c0 4
theorem d_UnderWay_firstWithData_7 : decode (jm_cod M_UnderWay_firstWithData) 7 = .ok (.if_icmp .ge 20, 3) := dt_UnderWay_firstWithData_c0 5
theorem d_UnderWay_firstWithData_10 : decode (jm_cod M_UnderWay_firstWithData) 10 = .ok (.aload_n 0, 1) := dt_UnderWay_firstWithData_c0 6
theorem d_UnderWay_firstWithData_11 : decode (jm_cod M_UnderWay_firstWithData) 11 = .ok (.getfield 18, 3) := dt_UnderWay_firstWithData_c0 7
theorem d_UnderWay_firstWithData_14 : decode (jm_cod M_UnderWay_firstWithData) 14 = .ok (.iload_n 1, 1) := dt_UnderWay_firstWithData_c0 8
theorem d_UnderWay_firstWithData_15 : decode (jm_cod M_UnderWay_firstWithData) 15 = .ok (.iaload, 1) := dt_UnderWay_firstWithData_c0 9
theorem d_UnderWay_firstWithData_16 : decode (jm_cod M_UnderWay_firstWithData) 16 = .ok (.ifCond .le 5, 3) := dt_UnderWay_firstWithData_c0 10
theorem d_UnderWay_firstWithData_19 : decode (jm_cod M_UnderWay_firstWithData) 19 = .ok (.iload_n 1, 1) := dt_UnderWay_firstWithData_c0 11
theorem d_UnderWay_firstWithData_20 : decode (jm_cod M_UnderWay_firstWithData) 20 = .ok (.ireturn, 1) := dt_UnderWay_firstWithData_c0 12
theorem d_UnderWay_firstWithData_21 : decode (jm_cod M_UnderWay_firstWithData) 21 = .ok (.iinc 1 1, 3) := dt_UnderWay_firstWithData_c0 13
theorem d_UnderWay_firstWithData_24 : decode (jm_cod M_UnderWay_firstWithData) 24 = .ok (.goto (-22), 3) := dt_UnderWay_firstWithData_c0 14
theorem d_UnderWay_firstWithData_27 : decode (jm_cod M_UnderWay_firstWithData) 27 = .ok (.iconst (-1), 1) := dt_UnderWay_firstWithData_c0 15
theorem d_UnderWay_firstWithData_28 : decode (jm_cod M_UnderWay_firstWithData) 28 = .ok (.ireturn, 1) := dt_UnderWay_firstWithData_c0 16
def tab_UnderWay_waitsBefore_c0 : List (Nat × Instr × Nat) := [(0, .iconst 0, 1), (1, .istore_n 3, 1), (2, .iload_n 3, 1), (3, .aload_n 0, 1), (4, .getfield 24, 3), (7, .if_icmp .ge 40, 3), (10, .aload_n 0, 1), (11, .getfield 15, 3), (14, .iload_n 3, 1), (15, .iaload, 1), (16, .iload_n 2, 1), (17, .if_icmp .ne 24, 3), (20, .aload_n 0, 1), (21, .getfield 18, 3), (24, .iload_n 3, 1), (25, .iaload, 1), (26, .ifCond .le 15, 3), (29, .aload_n 0, 1), (30, .getfield 21, 3), (33, .iload_n 3, 1), (34, .iaload, 1), (35, .iload_n 1, 1), (36, .if_icmp .ge 5, 3), (39, .iconst 1, 1)]
theorem dt_UnderWay_waitsBefore_c0 (i : Nat) : decode (jm_cod M_UnderWay_waitsBefore) (tab_UnderWay_waitsBefore_c0.getD i (0, .iconst 0, 1)).1 = .ok ((tab_UnderWay_waitsBefore_c0.getD i (0, .iconst 0, 1)).2.1, (tab_UnderWay_waitsBefore_c0.getD i (0, .iconst 0, 1)).2.2) := j_tab (by decide +kernel) i
theorem d_UnderWay_waitsBefore_0 : decode (jm_cod M_UnderWay_waitsBefore) 0 = .ok (.iconst 0, 1) := dt_UnderWay_waitsBefore_c0 0
theorem d_UnderWay_waitsBefore_1 : decode (jm_cod M_UnderWay_waitsBefore) 1 = .ok (.istore_n 3, 1) := dt_UnderWay_waitsBefore_c0 1
theorem d_UnderWay_waitsBefore_2 : decode (jm_cod M_UnderWay_waitsBefore) 2 = .ok (.iload_n 3, 1) := dt_UnderWay_waitsBefore_c0 2
theorem d_UnderWay_waitsBefore_3 : decode (jm_cod M_UnderWay_waitsBefore) 3 = .ok (.aload_n 0, 1) := dt_UnderWay_waitsBefore_c0 3
theorem d_UnderWay_waitsBefore_4 : decode (jm_cod M_UnderWay_waitsBefore) 4 = .ok (.getfield 24, 3) := dt_UnderWay_waitsBefore_c0 4
theorem d_UnderWay_waitsBefore_7 : decode (jm_cod M_UnderWay_waitsBefore) 7 = .ok (.if_icmp .ge 40, 3) := dt_UnderWay_waitsBefore_c0 5
theorem d_UnderWay_waitsBefore_10 : decode (jm_cod M_UnderWay_waitsBefore) 10 = .ok (.aload_n 0, 1) := dt_UnderWay_waitsBefore_c0 6
theorem d_UnderWay_waitsBefore_11 : decode (jm_cod M_UnderWay_waitsBefore) 11 = .ok (.getfield 15, 3) := dt_UnderWay_waitsBefore_c0 7
theorem d_UnderWay_waitsBefore_14 : decode (jm_cod M_UnderWay_waitsBefore) 14 = .ok (.iload_n 3, 1) := dt_UnderWay_waitsBefore_c0 8
theorem d_UnderWay_waitsBefore_15 : decode (jm_cod M_UnderWay_waitsBefore) 15 = .ok (.iaload, 1) := dt_UnderWay_waitsBefore_c0 9
theorem d_UnderWay_waitsBefore_16 : decode (jm_cod M_UnderWay_waitsBefore) 16 = .ok (.iload_n 2, 1) := dt_UnderWay_waitsBefore_c0 10
theorem d_UnderWay_waitsBefore_17 : decode (jm_cod M_UnderWay_waitsBefore) 17 = .ok (.if_icmp .ne 24, 3) := dt_UnderWay_waitsBefore_c0 11
theorem d_UnderWay_waitsBefore_20 : decode (jm_cod M_UnderWay_waitsBefore) 20 = .ok (.aload_n 0, 1) := dt_UnderWay_waitsBefore_c0 12
theorem d_UnderWay_waitsBefore_21 : decode (jm_cod M_UnderWay_waitsBefore) 21 = .ok (.getfield 18, 3) := dt_UnderWay_waitsBefore_c0 13
theorem d_UnderWay_waitsBefore_24 : decode (jm_cod M_UnderWay_waitsBefore) 24 = .ok (.iload_n 3, 1) := dt_UnderWay_waitsBefore_c0 14
theorem d_UnderWay_waitsBefore_25 : decode (jm_cod M_UnderWay_waitsBefore) 25 = .ok (.iaload, 1) := dt_UnderWay_waitsBefore_c0 15
theorem d_UnderWay_waitsBefore_26 : decode (jm_cod M_UnderWay_waitsBefore) 26 = .ok (.ifCond .le 15, 3) := dt_UnderWay_waitsBefore_c0 16
theorem d_UnderWay_waitsBefore_29 : decode (jm_cod M_UnderWay_waitsBefore) 29 = .ok (.aload_n 0, 1) := dt_UnderWay_waitsBefore_c0 17
theorem d_UnderWay_waitsBefore_30 : decode (jm_cod M_UnderWay_waitsBefore) 30 = .ok (.getfield 21, 3) := dt_UnderWay_waitsBefore_c0 18
theorem d_UnderWay_waitsBefore_33 : decode (jm_cod M_UnderWay_waitsBefore) 33 = .ok (.iload_n 3, 1) := dt_UnderWay_waitsBefore_c0 19
theorem d_UnderWay_waitsBefore_34 : decode (jm_cod M_UnderWay_waitsBefore) 34 = .ok (.iaload, 1) := dt_UnderWay_waitsBefore_c0 20
theorem d_UnderWay_waitsBefore_35 : decode (jm_cod M_UnderWay_waitsBefore) 35 = .ok (.iload_n 1, 1) := dt_UnderWay_waitsBefore_c0 21
theorem d_UnderWay_waitsBefore_36 : decode (jm_cod M_UnderWay_waitsBefore) 36 = .ok (.if_icmp .ge 5, 3) := dt_UnderWay_waitsBefore_c0 22
theorem d_UnderWay_waitsBefore_39 : decode (jm_cod M_UnderWay_waitsBefore) 39 = .ok (.iconst 1, 1) := dt_UnderWay_waitsBefore_c0 23
def tab_UnderWay_waitsBefore_c1 : List (Nat × Instr × Nat) := [(40, .ireturn, 1), (41, .iinc 3 1, 3), (44, .goto (-42), 3), (47, .iconst 0, 1), (48, .ireturn, 1)]
theorem dt_UnderWay_waitsBefore_c1 (i : Nat) : decode (jm_cod M_UnderWay_waitsBefore) (tab_UnderWay_waitsBefore_c1.getD i (40, .ireturn, 1)).1 = .ok ((tab_UnderWay_waitsBefore_c1.getD i (40, .ireturn, 1)).2.1, (tab_UnderWay_waitsBefore_c1.getD i (40, .ireturn, 1)).2.2) := j_tab (by decide +kernel) i
theorem d_UnderWay_waitsBefore_40 : decode (jm_cod M_UnderWay_waitsBefore) 40 = .ok (.ireturn, 1) := dt_UnderWay_waitsBefore_c1 0
theorem d_UnderWay_waitsBefore_41 : decode (jm_cod M_UnderWay_waitsBefore) 41 = .ok (.iinc 3 1, 3) := dt_UnderWay_waitsBefore_c1 1
theorem d_UnderWay_waitsBefore_44 : decode (jm_cod M_UnderWay_waitsBefore) 44 = .ok (.goto (-42), 3) := dt_UnderWay_waitsBefore_c1 2
theorem d_UnderWay_waitsBefore_47 : decode (jm_cod M_UnderWay_waitsBefore) 47 = .ok (.iconst 0, 1) := dt_UnderWay_waitsBefore_c1 3
theorem d_UnderWay_waitsBefore_48 : decode (jm_cod M_UnderWay_waitsBefore) 48 = .ok (.ireturn, 1) := dt_UnderWay_waitsBefore_c1 4
def tab_UnderWay_removeFirst_c0 : List (Nat × Instr × Nat) := [(0, .iconst 0, 1), (1, .istore_n 2, 1), (2, .iconst 0, 1), (3, .istore_n 3, 1), (4, .iconst 0, 1), (5, .istore 4, 2), (7, .iload 4, 2), (9, .aload_n 0, 1), (10, .getfield 24, 3), (13, .if_icmp .ge 84, 3), (16, .iload_n 3, 1), (17, .ifCond .ne 19, 3), (20, .aload_n 0, 1), (21, .getfield 9, 3), (24, .iload 4, 2), (26, .iaload, 1), (27, .iload_n 1, 1), (28, .if_icmp .ne 8, 3), (31, .iconst 1, 1), (32, .istore_n 3, 1), (33, .goto 58, 3), (36, .aload_n 0, 1), (37, .getfield 9, 3), (40, .iload_n 2, 1)]
theorem dt_UnderWay_removeFirst_c0 (i : Nat) : decode (jm_cod M_UnderWay_removeFirst) (tab_UnderWay_removeFirst_c0.getD i (0, .iconst 0, 1)).1 = .ok ((tab_UnderWay_removeFirst_c0.getD i (0, .iconst 0, 1)).2.1, (tab_UnderWay_removeFirst_c0.getD i (0, .iconst 0, 1)).2.2) := j_tab (by decide +kernel) i
theorem d_UnderWay_removeFirst_0 : decode (jm_cod M_UnderWay_removeFirst) 0 = .ok (.iconst 0, 1) := dt_UnderWay_removeFirst_c0 0
theorem d_UnderWay_removeFirst_1 : decode (jm_cod M_UnderWay_removeFirst) 1 = .ok (.istore_n 2, 1) := dt_UnderWay_removeFirst_c0 1
theorem d_UnderWay_removeFirst_2 : decode (jm_cod M_UnderWay_removeFirst) 2 = .ok (.iconst 0, 1) := dt_UnderWay_removeFirst_c0 2
theorem d_UnderWay_removeFirst_3 : decode (jm_cod M_UnderWay_removeFirst) 3 = .ok (.istore_n 3, 1) := dt_UnderWay_removeFirst_c0 3
theorem d_UnderWay_removeFirst_4 : decode (jm_cod M_UnderWay_removeFirst) 4 = .ok (.iconst 0, 1) := dt_UnderWay_removeFirst_c0 4
theorem d_UnderWay_removeFirst_5 : decode (jm_cod M_UnderWay_removeFirst) 5 = .ok (.istore 4, 2) := dt_UnderWay_removeFirst_c0 5
theorem d_UnderWay_removeFirst_7 : decode (jm_cod M_UnderWay_removeFirst) 7 = .ok (.iload 4, 2) := dt_UnderWay_removeFirst_c0 6
theorem d_UnderWay_removeFirst_9 : decode (jm_cod M_UnderWay_removeFirst) 9 = .ok (.aload_n 0, 1) := dt_UnderWay_removeFirst_c0 7
theorem d_UnderWay_removeFirst_10 : decode (jm_cod M_UnderWay_removeFirst) 10 = .ok (.getfield 24, 3) := dt_UnderWay_removeFirst_c0 8
theorem d_UnderWay_removeFirst_13 : decode (jm_cod M_UnderWay_removeFirst) 13 = .ok (.if_icmp .ge 84, 3) := dt_UnderWay_removeFirst_c0 9
theorem d_UnderWay_removeFirst_16 : decode (jm_cod M_UnderWay_removeFirst) 16 = .ok (.iload_n 3, 1) := dt_UnderWay_removeFirst_c0 10
theorem d_UnderWay_removeFirst_17 : decode (jm_cod M_UnderWay_removeFirst) 17 = .ok (.ifCond .ne 19, 3) := dt_UnderWay_removeFirst_c0 11
theorem d_UnderWay_removeFirst_20 : decode (jm_cod M_UnderWay_removeFirst) 20 = .ok (.aload_n 0, 1) := dt_UnderWay_removeFirst_c0 12
theorem d_UnderWay_removeFirst_21 : decode (jm_cod M_UnderWay_removeFirst) 21 = .ok (.getfield 9, 3) := dt_UnderWay_removeFirst_c0 13
theorem d_UnderWay_removeFirst_24 : decode (jm_cod M_UnderWay_removeFirst) 24 = .ok (.iload 4, 2) := dt_UnderWay_removeFirst_c0 14
theorem d_UnderWay_removeFirst_26 : decode (jm_cod M_UnderWay_removeFirst) 26 = .ok (.iaload, 1) := dt_UnderWay_removeFirst_c0 15
theorem d_UnderWay_removeFirst_27 : decode (jm_cod M_UnderWay_removeFirst) 27 = .ok (.iload_n 1, 1) := dt_UnderWay_removeFirst_c0 16
theorem d_UnderWay_removeFirst_28 : decode (jm_cod M_UnderWay_removeFirst) 28 = .ok (.if_icmp .ne 8, 3) := dt_UnderWay_removeFirst_c0 17
theorem d_UnderWay_removeFirst_31 : decode (jm_cod M_UnderWay_removeFirst) 31 = .ok (.iconst 1, 1) := dt_UnderWay_removeFirst_c0 18
theorem d_UnderWay_removeFirst_32 : decode (jm_cod M_UnderWay_removeFirst) 32 = .ok (.istore_n 3, 1) := dt_UnderWay_removeFirst_c0 19
theorem d_UnderWay_removeFirst_33 : decode (jm_cod M_UnderWay_removeFirst) 33 = .ok (.goto 58, 3) := dt_UnderWay_removeFirst_c0 20
theorem d_UnderWay_removeFirst_36 : decode (jm_cod M_UnderWay_removeFirst) 36 = .ok (.aload_n 0, 1) := dt_UnderWay_removeFirst_c0 21
theorem d_UnderWay_removeFirst_37 : decode (jm_cod M_UnderWay_removeFirst) 37 = .ok (.getfield 9, 3) := dt_UnderWay_removeFirst_c0 22
theorem d_UnderWay_removeFirst_40 : decode (jm_cod M_UnderWay_removeFirst) 40 = .ok (.iload_n 2, 1) := dt_UnderWay_removeFirst_c0 23
def tab_UnderWay_removeFirst_c1 : List (Nat × Instr × Nat) := [(41, .aload_n 0, 1), (42, .getfield 9, 3), (45, .iload 4, 2), (47, .iaload, 1), (48, .iastore, 1), (49, .aload_n 0, 1), (50, .getfield 15, 3), (53, .iload_n 2, 1), (54, .aload_n 0, 1), (55, .getfield 15, 3), (58, .iload 4, 2), (60, .iaload, 1), (61, .iastore, 1), (62, .aload_n 0, 1), (63, .getfield 18, 3), (66, .iload_n 2, 1), (67, .aload_n 0, 1), (68, .getfield 18, 3), (71, .iload 4, 2), (73, .iaload, 1), (74, .iastore, 1), (75, .aload_n 0, 1), (76, .getfield 21, 3), (79, .iload_n 2, 1)]
theorem dt_UnderWay_removeFirst_c1 (i : Nat) : decode (jm_cod M_UnderWay_removeFirst) (tab_UnderWay_removeFirst_c1.getD i (41, .aload_n 0, 1)).1 = .ok ((tab_UnderWay_removeFirst_c1.getD i (41, .aload_n 0, 1)).2.1, (tab_UnderWay_removeFirst_c1.getD i (41, .aload_n 0, 1)).2.2) := j_tab (by decide +kernel) i
theorem d_UnderWay_removeFirst_41 : decode (jm_cod M_UnderWay_removeFirst) 41 = .ok (.aload_n 0, 1) := dt_UnderWay_removeFirst_c1 0
theorem d_UnderWay_removeFirst_42 : decode (jm_cod M_UnderWay_removeFirst) 42 = .ok (.getfield 9, 3) := dt_UnderWay_removeFirst_c1 1
theorem d_UnderWay_removeFirst_45 : decode (jm_cod M_UnderWay_removeFirst) 45 = .ok (.iload 4, 2) := dt_UnderWay_removeFirst_c1 2
theorem d_UnderWay_removeFirst_47 : decode (jm_cod M_UnderWay_removeFirst) 47 = .ok (.iaload, 1) := dt_UnderWay_removeFirst_c1 3
theorem d_UnderWay_removeFirst_48 : decode (jm_cod M_UnderWay_removeFirst) 48 = .ok (.iastore, 1) := dt_UnderWay_removeFirst_c1 4
theorem d_UnderWay_removeFirst_49 : decode (jm_cod M_UnderWay_removeFirst) 49 = .ok (.aload_n 0, 1) := dt_UnderWay_removeFirst_c1 5
theorem d_UnderWay_removeFirst_50 : decode (jm_cod M_UnderWay_removeFirst) 50 = .ok (.getfield 15, 3) := dt_UnderWay_removeFirst_c1 6
theorem d_UnderWay_removeFirst_53 : decode (jm_cod M_UnderWay_removeFirst) 53 = .ok (.iload_n 2, 1) := dt_UnderWay_removeFirst_c1 7
theorem d_UnderWay_removeFirst_54 : decode (jm_cod M_UnderWay_removeFirst) 54 = .ok (.aload_n 0, 1) := dt_UnderWay_removeFirst_c1 8
theorem d_UnderWay_removeFirst_55 : decode (jm_cod M_UnderWay_removeFirst) 55 = .ok (.getfield 15, 3) := dt_UnderWay_removeFirst_c1 9
theorem d_UnderWay_removeFirst_58 : decode (jm_cod M_UnderWay_removeFirst) 58 = .ok (.iload 4, 2) := dt_UnderWay_removeFirst_c1 10
theorem d_UnderWay_removeFirst_60 : decode (jm_cod M_UnderWay_removeFirst) 60 = .ok (.iaload, 1) := dt_UnderWay_removeFirst_c1 11
theorem d_UnderWay_removeFirst_61 : decode (jm_cod M_UnderWay_removeFirst) 61 = .ok (.iastore, 1) := dt_UnderWay_removeFirst_c1 12
theorem d_UnderWay_removeFirst_62 : decode (jm_cod M_UnderWay_removeFirst) 62 = .ok (.aload_n 0, 1) := dt_UnderWay_removeFirst_c1 13
theorem d_UnderWay_removeFirst_63 : decode (jm_cod M_UnderWay_removeFirst) 63 = .ok (.getfield 18, 3) := dt_UnderWay_removeFirst_c1 14
theorem d_UnderWay_removeFirst_66 : decode (jm_cod M_UnderWay_removeFirst) 66 = .ok (.iload_n 2, 1) := dt_UnderWay_removeFirst_c1 15
theorem d_UnderWay_removeFirst_67 : decode (jm_cod M_UnderWay_removeFirst) 67 = .ok (.aload_n 0, 1) := dt_UnderWay_removeFirst_c1 16
theorem d_UnderWay_removeFirst_68 : decode (jm_cod M_UnderWay_removeFirst) 68 = .ok (.getfield 18, 3) := dt_UnderWay_removeFirst_c1 17
theorem d_UnderWay_removeFirst_71 : decode (jm_cod M_UnderWay_removeFirst) 71 = .ok (.iload 4, 2) := dt_UnderWay_removeFirst_c1 18
theorem d_UnderWay_removeFirst_73 : decode (jm_cod M_UnderWay_removeFirst) 73 = .ok (.iaload, 1) := dt_UnderWay_removeFirst_c1 19
theorem d_UnderWay_removeFirst_74 : decode (jm_cod M_UnderWay_removeFirst) 74 = .ok (.iastore, 1) := dt_UnderWay_removeFirst_c1 20
theorem d_UnderWay_removeFirst_75 : decode (jm_cod M_UnderWay_removeFirst) 75 = .ok (.aload_n 0, 1) := dt_UnderWay_removeFirst_c1 21
theorem d_UnderWay_removeFirst_76 : decode (jm_cod M_UnderWay_removeFirst) 76 = .ok (.getfield 21, 3) := dt_UnderWay_removeFirst_c1 22
theorem d_UnderWay_removeFirst_79 : decode (jm_cod M_UnderWay_removeFirst) 79 = .ok (.iload_n 2, 1) := dt_UnderWay_removeFirst_c1 23
def tab_UnderWay_removeFirst_c2 : List (Nat × Instr × Nat) := [(80, .aload_n 0, 1), (81, .getfield 21, 3), (84, .iload 4, 2), (86, .iaload, 1), (87, .iastore, 1), (88, .iinc 2 1, 3), (91, .iinc 4 1, 3), (94, .goto (-87), 3), (97, .aload_n 0, 1), (98, .iload_n 2, 1), (99, .putfield 24, 3), (102, .return_, 1)]
theorem dt_UnderWay_removeFirst_c2 (i : Nat) : decode (jm_cod M_UnderWay_removeFirst) (tab_UnderWay_removeFirst_c2.getD i (80, .aload_n 0, 1)).1 = .ok ((tab_UnderWay_removeFirst_c2.getD i (80, .aload_n 0, 1)).2.1, (tab_UnderWay_removeFirst_c2.getD i (80, .aload_n 0, 1)).2.2) := j_tab (by decide +kernel) i
theorem d_UnderWay_removeFirst_80 : decode (jm_cod M_UnderWay_removeFirst) 80 = .ok (.aload_n 0, 1) := dt_UnderWay_removeFirst_c2 0
theorem d_UnderWay_removeFirst_81 : decode (jm_cod M_UnderWay_removeFirst) 81 = .ok (.getfield 21, 3) := dt_UnderWay_removeFirst_c2 1
theorem d_UnderWay_removeFirst_84 : decode (jm_cod M_UnderWay_removeFirst) 84 = .ok (.iload 4, 2) := dt_UnderWay_removeFirst_c2 2
theorem d_UnderWay_removeFirst_86 : decode (jm_cod M_UnderWay_removeFirst) 86 = .ok (.iaload, 1) := dt_UnderWay_removeFirst_c2 3
theorem d_UnderWay_removeFirst_87 : decode (jm_cod M_UnderWay_removeFirst) 87 = .ok (.iastore, 1) := dt_UnderWay_removeFirst_c2 4
theorem d_UnderWay_removeFirst_88 : decode (jm_cod M_UnderWay_removeFirst) 88 = .ok (.iinc 2 1, 3) := dt_UnderWay_removeFirst_c2 5
theorem d_UnderWay_removeFirst_91 : decode (jm_cod M_UnderWay_removeFirst) 91 = .ok (.iinc 4 1, 3) := dt_UnderWay_removeFirst_c2 6
theorem d_UnderWay_removeFirst_94 : decode (jm_cod M_UnderWay_removeFirst) 94 = .ok (.goto (-87), 3) := dt_UnderWay_removeFirst_c2 7
theorem d_UnderWay_removeFirst_97 : decode (jm_cod M_UnderWay_removeFirst) 97 = .ok (.aload_n 0, 1) := dt_UnderWay_removeFirst_c2 8
theorem d_UnderWay_removeFirst_98 : decode (jm_cod M_UnderWay_removeFirst) 98 = .ok (.iload_n 2, 1) := dt_UnderWay_removeFirst_c2 9
theorem d_UnderWay_removeFirst_99 : decode (jm_cod M_UnderWay_removeFirst) 99 = .ok (.putfield 24, 3) := dt_UnderWay_removeFirst_c2 10
theorem d_UnderWay_removeFirst_102 : decode (jm_cod M_UnderWay_removeFirst) 102 = .ok (.return_, 1) := dt_UnderWay_removeFirst_c2 11
def tab_UnderWay_countTo_c0 : List (Nat × Instr × Nat) := [(0, .iconst 0, 1), (1, .istore_n 2, 1), (2, .iconst 0, 1), (3, .istore_n 3, 1), (4, .iload_n 3, 1), (5, .aload_n 0, 1), (6, .getfield 24, 3), (9, .if_icmp .ge 27, 3), (12, .iload_n 2, 1), (13, .aload_n 0, 1), (14, .getfield 15, 3), (17, .iload_n 3, 1), (18, .iaload, 1), (19, .iload_n 1, 1), (20, .if_icmp .ne 7, 3), (23, .iconst 1, 1), (24, .goto 4, 3), (27, .iconst 0, 1), (28, .iadd, 1), (29, .istore_n 2, 1), (30, .iinc 3 1, 3), (33, .goto (-29), 3), (36, .iload_n 2, 1), (37, .ireturn, 1)]
theorem dt_UnderWay_countTo_c0 (i : Nat) : decode (jm_cod M_UnderWay_countTo) (tab_UnderWay_countTo_c0.getD i (0, .iconst 0, 1)).1 = .ok ((tab_UnderWay_countTo_c0.getD i (0, .iconst 0, 1)).2.1, (tab_UnderWay_countTo_c0.getD i (0, .iconst 0, 1)).2.2) := j_tab (by decide +kernel) i
theorem d_UnderWay_countTo_0 : decode (jm_cod M_UnderWay_countTo) 0 = .ok (.iconst 0, 1) := dt_UnderWay_countTo_c0 0
theorem d_UnderWay_countTo_1 : decode (jm_cod M_UnderWay_countTo) 1 = .ok (.istore_n 2, 1) := dt_UnderWay_countTo_c0 1
theorem d_UnderWay_countTo_2 : decode (jm_cod M_UnderWay_countTo) 2 = .ok (.iconst 0, 1) := dt_UnderWay_countTo_c0 2
theorem d_UnderWay_countTo_3 : decode (jm_cod M_UnderWay_countTo) 3 = .ok (.istore_n 3, 1) := dt_UnderWay_countTo_c0 3
theorem d_UnderWay_countTo_4 : decode (jm_cod M_UnderWay_countTo) 4 = .ok (.iload_n 3, 1) := dt_UnderWay_countTo_c0 4
theorem d_UnderWay_countTo_5 : decode (jm_cod M_UnderWay_countTo) 5 = .ok (.aload_n 0, 1) := dt_UnderWay_countTo_c0 5
theorem d_UnderWay_countTo_6 : decode (jm_cod M_UnderWay_countTo) 6 = .ok (.getfield 24, 3) := dt_UnderWay_countTo_c0 6
theorem d_UnderWay_countTo_9 : decode (jm_cod M_UnderWay_countTo) 9 = .ok (.if_icmp .ge 27, 3) := dt_UnderWay_countTo_c0 7
theorem d_UnderWay_countTo_12 : decode (jm_cod M_UnderWay_countTo) 12 = .ok (.iload_n 2, 1) := dt_UnderWay_countTo_c0 8
theorem d_UnderWay_countTo_13 : decode (jm_cod M_UnderWay_countTo) 13 = .ok (.aload_n 0, 1) := dt_UnderWay_countTo_c0 9
theorem d_UnderWay_countTo_14 : decode (jm_cod M_UnderWay_countTo) 14 = .ok (.getfield 15, 3) := dt_UnderWay_countTo_c0 10
theorem d_UnderWay_countTo_17 : decode (jm_cod M_UnderWay_countTo) 17 = .ok (.iload_n 3, 1) := dt_UnderWay_countTo_c0 11
theorem d_UnderWay_countTo_18 : decode (jm_cod M_UnderWay_countTo) 18 = .ok (.iaload, 1) := dt_UnderWay_countTo_c0 12
theorem d_UnderWay_countTo_19 : decode (jm_cod M_UnderWay_countTo) 19 = .ok (.iload_n 1, 1) := dt_UnderWay_countTo_c0 13
theorem d_UnderWay_countTo_20 : decode (jm_cod M_UnderWay_countTo) 20 = .ok (.if_icmp .ne 7, 3) := dt_UnderWay_countTo_c0 14
theorem d_UnderWay_countTo_23 : decode (jm_cod M_UnderWay_countTo) 23 = .ok (.iconst 1, 1) := dt_UnderWay_countTo_c0 15
theorem d_UnderWay_countTo_24 : decode (jm_cod M_UnderWay_countTo) 24 = .ok (.goto 4, 3) := dt_UnderWay_countTo_c0 16
theorem d_UnderWay_countTo_27 : decode (jm_cod M_UnderWay_countTo) 27 = .ok (.iconst 0, 1) := dt_UnderWay_countTo_c0 17
theorem d_UnderWay_countTo_28 : decode (jm_cod M_UnderWay_countTo) 28 = .ok (.iadd, 1) := dt_UnderWay_countTo_c0 18
theorem d_UnderWay_countTo_29 : decode (jm_cod M_UnderWay_countTo) 29 = .ok (.istore_n 2, 1) := dt_UnderWay_countTo_c0 19
theorem d_UnderWay_countTo_30 : decode (jm_cod M_UnderWay_countTo) 30 = .ok (.iinc 3 1, 3) := dt_UnderWay_countTo_c0 20
theorem d_UnderWay_countTo_33 : decode (jm_cod M_UnderWay_countTo) 33 = .ok (.goto (-29), 3) := dt_UnderWay_countTo_c0 21
theorem d_UnderWay_countTo_36 : decode (jm_cod M_UnderWay_countTo) 36 = .ok (.iload_n 2, 1) := dt_UnderWay_countTo_c0 22
theorem d_UnderWay_countTo_37 : decode (jm_cod M_UnderWay_countTo) 37 = .ok (.ireturn, 1) := dt_UnderWay_countTo_c0 23
