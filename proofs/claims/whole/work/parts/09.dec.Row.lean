def tab_Row_init_c0 : List (Nat × Instr × Nat) := [(0, .aload_n 0, 1), (1, .invokespecial 1, 3), (4, .aload_n 0, 1), (5, .iload_n 1, 1), (6, .newarray .long, 2), (8, .putfield 7, 3), (11, .aload_n 0, 1), (12, .iload_n 1, 1), (13, .newarray .int, 2), (15, .putfield 13, 3), (18, .aload_n 0, 1), (19, .iload_n 1, 1), (20, .newarray .int, 2), (22, .putfield 17, 3), (25, .return_, 1)]
theorem dt_Row_init_c0 (i : Nat) : decode (jm_cod M_Row_init) (tab_Row_init_c0.getD i (0, .aload_n 0, 1)).1 = .ok ((tab_Row_init_c0.getD i (0, .aload_n 0, 1)).2.1, (tab_Row_init_c0.getD i (0, .aload_n 0, 1)).2.2) := j_tab (by decide +kernel) i
theorem d_Row_init_0 : decode (jm_cod M_Row_init) 0 = .ok (.aload_n 0, 1) := dt_Row_init_c0 0
theorem d_Row_init_1 : decode (jm_cod M_Row_init) 1 = .ok (.invokespecial 1, 3) := dt_Row_init_c0 1
theorem d_Row_init_4 : decode (jm_cod M_Row_init) 4 = .ok (.aload_n 0, 1) := dt_Row_init_c0 2
theorem d_Row_init_5 : decode (jm_cod M_Row_init) 5 = .ok (.iload_n 1, 1) := dt_Row_init_c0 3
theorem d_Row_init_6 : decode (jm_cod M_Row_init) 6 = .ok (.newarray .long, 2) := dt_Row_init_c0 4
theorem d_Row_init_8 : decode (jm_cod M_Row_init) 8 = .ok (.putfield 7, 3) := dt_Row_init_c0 5
theorem d_Row_init_11 : decode (jm_cod M_Row_init) 11 = .ok (.aload_n 0, 1) := dt_Row_init_c0 6
theorem d_Row_init_12 : decode (jm_cod M_Row_init) 12 = .ok (.iload_n 1, 1) := dt_Row_init_c0 7
theorem d_Row_init_13 : decode (jm_cod M_Row_init) 13 = .ok (.newarray .int, 2) := dt_Row_init_c0 8
theorem d_Row_init_15 : decode (jm_cod M_Row_init) 15 = .ok (.putfield 13, 3) := dt_Row_init_c0 9
theorem d_Row_init_18 : decode (jm_cod M_Row_init) 18 = .ok (.aload_n 0, 1) := dt_Row_init_c0 10
theorem d_Row_init_19 : decode (jm_cod M_Row_init) 19 = .ok (.iload_n 1, 1) := dt_Row_init_c0 11
theorem d_Row_init_20 : decode (jm_cod M_Row_init) 20 = .ok (.newarray .int, 2) := dt_Row_init_c0 12
theorem d_Row_init_22 : decode (jm_cod M_Row_init) 22 = .ok (.putfield 17, 3) := dt_Row_init_c0 13
theorem d_Row_init_25 : decode (jm_cod M_Row_init) 25 = .ok (.return_, 1) := dt_Row_init_c0 14
def tab_Row_hasRoom_c0 : List (Nat × Instr × Nat) := [(0, .aload_n 0, 1), (1, .getfield 20, 3), (4, .aload_n 0, 1), (5, .getfield 7, 3), (8, .arraylength, 1), (9, .if_icmp .ge 7, 3), (12, .iconst 1, 1), (13, .goto 4, 3), (16, .iconst 0, 1), (17, .ireturn, 1)]
theorem dt_Row_hasRoom_c0 (i : Nat) : decode (jm_cod M_Row_hasRoom) (tab_Row_hasRoom_c0.getD i (0, .aload_n 0, 1)).1 = .ok ((tab_Row_hasRoom_c0.getD i (0, .aload_n 0, 1)).2.1, (tab_Row_hasRoom_c0.getD i (0, .aload_n 0, 1)).2.2) := j_tab (by decide +kernel) i
theorem d_Row_hasRoom_0 : decode (jm_cod M_Row_hasRoom) 0 = .ok (.aload_n 0, 1) := dt_Row_hasRoom_c0 0
theorem d_Row_hasRoom_1 : decode (jm_cod M_Row_hasRoom) 1 = .ok (.getfield 20, 3) := dt_Row_hasRoom_c0 1
theorem d_Row_hasRoom_4 : decode (jm_cod M_Row_hasRoom) 4 = .ok (.aload_n 0, 1) := dt_Row_hasRoom_c0 2
theorem d_Row_hasRoom_5 : decode (jm_cod M_Row_hasRoom) 5 = .ok (.getfield 7, 3) := dt_Row_hasRoom_c0 3
theorem d_Row_hasRoom_8 : decode (jm_cod M_Row_hasRoom) 8 = .ok (.arraylength, 1) := dt_Row_hasRoom_c0 4
theorem d_Row_hasRoom_9 : decode (jm_cod M_Row_hasRoom) 9 = .ok (.if_icmp .ge 7, 3) := dt_Row_hasRoom_c0 5
theorem d_Row_hasRoom_12 : decode (jm_cod M_Row_hasRoom) 12 = .ok (.iconst 1, 1) := dt_Row_hasRoom_c0 6
theorem d_Row_hasRoom_13 : decode (jm_cod M_Row_hasRoom) 13 = .ok (.goto 4, 3) := dt_Row_hasRoom_c0 7
theorem d_Row_hasRoom_16 : decode (jm_cod M_Row_hasRoom) 16 = .ok (.iconst 0, 1) := dt_Row_hasRoom_c0 8
theorem d_Row_hasRoom_17 : decode (jm_cod M_Row_hasRoom) 17 = .ok (.ireturn, 1) := dt_Row_hasRoom_c0 9
def tab_Row_holds_c0 : List (Nat × Instr × Nat) := [(0, .aload_n 0, 1), (1, .getfield 20, 3), (4, .ifCond .le 7, 3), (7, .iconst 1, 1), (8, .goto 4, 3), (11, .iconst 0, 1), (12, .ireturn, 1)]
theorem dt_Row_holds_c0 (i : Nat) : decode (jm_cod M_Row_holds) (tab_Row_holds_c0.getD i (0, .aload_n 0, 1)).1 = .ok ((tab_Row_holds_c0.getD i (0, .aload_n 0, 1)).2.1, (tab_Row_holds_c0.getD i (0, .aload_n 0, 1)).2.2) := j_tab (by decide +kernel) i
theorem d_Row_holds_0 : decode (jm_cod M_Row_holds) 0 = .ok (.aload_n 0, 1) := dt_Row_holds_c0 0
theorem d_Row_holds_1 : decode (jm_cod M_Row_holds) 1 = .ok (.getfield 20, 3) := dt_Row_holds_c0 1
theorem d_Row_holds_4 : decode (jm_cod M_Row_holds) 4 = .ok (.ifCond .le 7, 3) := dt_Row_holds_c0 2
theorem d_Row_holds_7 : decode (jm_cod M_Row_holds) 7 = .ok (.iconst 1, 1) := dt_Row_holds_c0 3
theorem d_Row_holds_8 : decode (jm_cod M_Row_holds) 8 = .ok (.goto 4, 3) := dt_Row_holds_c0 4
theorem d_Row_holds_11 : decode (jm_cod M_Row_holds) 11 = .ok (.iconst 0, 1) := dt_Row_holds_c0 5
theorem d_Row_holds_12 : decode (jm_cod M_Row_holds) 12 = .ok (.ireturn, 1) := dt_Row_holds_c0 6
def tab_Row_firstContent_c0 : List (Nat × Instr × Nat) := [(0, .aload_n 0, 1), (1, .getfield 20, 3), (4, .ifCond .le 12, 3), (7, .aload_n 0, 1), (8, .getfield 7, 3), (11, .iconst 0, 1), (12, .laload, 1), (13, .goto 4, 3), (16, .lconst 0, 1), (17, .lreturn, 1)]
theorem dt_Row_firstContent_c0 (i : Nat) : decode (jm_cod M_Row_firstContent) (tab_Row_firstContent_c0.getD i (0, .aload_n 0, 1)).1 = .ok ((tab_Row_firstContent_c0.getD i (0, .aload_n 0, 1)).2.1, (tab_Row_firstContent_c0.getD i (0, .aload_n 0, 1)).2.2) := j_tab (by decide +kernel) i
theorem d_Row_firstContent_0 : decode (jm_cod M_Row_firstContent) 0 = .ok (.aload_n 0, 1) := dt_Row_firstContent_c0 0
theorem d_Row_firstContent_1 : decode (jm_cod M_Row_firstContent) 1 = .ok (.getfield 20, 3) := dt_Row_firstContent_c0 1
theorem d_Row_firstContent_4 : decode (jm_cod M_Row_firstContent) 4 = .ok (.ifCond .le 12, 3) := dt_Row_firstContent_c0 2
theorem d_Row_firstContent_7 : decode (jm_cod M_Row_firstContent) 7 = .ok (.aload_n 0, 1) := dt_Row_firstContent_c0 3
theorem d_Row_firstContent_8 : decode (jm_cod M_Row_firstContent) 8 = .ok (.getfield 7, 3) := dt_Row_firstContent_c0 4
theorem d_Row_firstContent_11 : decode (jm_cod M_Row_firstContent) 11 = .ok (.iconst 0, 1) := dt_Row_firstContent_c0 5
theorem d_Row_firstContent_12 : decode (jm_cod M_Row_firstContent) 12 = .ok (.laload, 1) := dt_Row_firstContent_c0 6
theorem d_Row_firstContent_13 : decode (jm_cod M_Row_firstContent) 13 = .ok (.goto 4, 3) := dt_Row_firstContent_c0 7
theorem d_Row_firstContent_16 : decode (jm_cod M_Row_firstContent) 16 = .ok (.lconst 0, 1) := dt_Row_firstContent_c0 8
theorem d_Row_firstContent_17 : decode (jm_cod M_Row_firstContent) 17 = .ok (.lreturn, 1) := dt_Row_firstContent_c0 9
def tab_Row_firstRest_c0 : List (Nat × Instr × Nat) := [(0, .aload_n 0, 1), (1, .getfield 20, 3), (4, .ifCond .le 12, 3), (7, .aload_n 0, 1), (8, .getfield 13, 3), (11, .iconst 0, 1), (12, .iaload, 1), (13, .goto 4, 3), (16, .iconst 0, 1), (17, .ireturn, 1)]
theorem dt_Row_firstRest_c0 (i : Nat) : decode (jm_cod M_Row_firstRest) (tab_Row_firstRest_c0.getD i (0, .aload_n 0, 1)).1 = .ok ((tab_Row_firstRest_c0.getD i (0, .aload_n 0, 1)).2.1, (tab_Row_firstRest_c0.getD i (0, .aload_n 0, 1)).2.2) := j_tab (by decide +kernel) i
theorem d_Row_firstRest_0 : decode (jm_cod M_Row_firstRest) 0 = .ok (.aload_n 0, 1) := dt_Row_firstRest_c0 0
theorem d_Row_firstRest_1 : decode (jm_cod M_Row_firstRest) 1 = .ok (.getfield 20, 3) := dt_Row_firstRest_c0 1
theorem d_Row_firstRest_4 : decode (jm_cod M_Row_firstRest) 4 = .ok (.ifCond .le 12, 3) := dt_Row_firstRest_c0 2
theorem d_Row_firstRest_7 : decode (jm_cod M_Row_firstRest) 7 = .ok (.aload_n 0, 1) := dt_Row_firstRest_c0 3
theorem d_Row_firstRest_8 : decode (jm_cod M_Row_firstRest) 8 = .ok (.getfield 13, 3) := dt_Row_firstRest_c0 4
theorem d_Row_firstRest_11 : decode (jm_cod M_Row_firstRest) 11 = .ok (.iconst 0, 1) := dt_Row_firstRest_c0 5
theorem d_Row_firstRest_12 : decode (jm_cod M_Row_firstRest) 12 = .ok (.iaload, 1) := dt_Row_firstRest_c0 6
theorem d_Row_firstRest_13 : decode (jm_cod M_Row_firstRest) 13 = .ok (.goto 4, 3) := dt_Row_firstRest_c0 7
theorem d_Row_firstRest_16 : decode (jm_cod M_Row_firstRest) 16 = .ok (.iconst 0, 1) := dt_Row_firstRest_c0 8
theorem d_Row_firstRest_17 : decode (jm_cod M_Row_firstRest) 17 = .ok (.ireturn, 1) := dt_Row_firstRest_c0 9
def tab_Row_put_c0 : List (Nat × Instr × Nat) := [(0, .aload_n 0, 1), (1, .invokevirtual 24, 3), (4, .ifCond .eq 44, 3), (7, .aload_n 0, 1), (8, .getfield 7, 3), (11, .aload_n 0, 1), (12, .getfield 20, 3), (15, .lload_n 1, 1), (16, .lastore, 1), (17, .aload_n 0, 1), (18, .getfield 13, 3), (21, .aload_n 0, 1), (22, .getfield 20, 3), (25, .iload_n 3, 1), (26, .iastore, 1), (27, .aload_n 0, 1), (28, .getfield 17, 3), (31, .aload_n 0, 1), (32, .getfield 20, 3), (35, .iload 4, 2), (37, .iastore, 1), (38, .aload_n 0, 1), (39, .dup, 1), (40, .getfield 20, 3)]
theorem dt_Row_put_c0 (i : Nat) : decode (jm_cod M_Row_put) (tab_Row_put_c0.getD i (0, .aload_n 0, 1)).1 = .ok ((tab_Row_put_c0.getD i (0, .aload_n 0, 1)).2.1, (tab_Row_put_c0.getD i (0, .aload_n 0, 1)).2.2) := j_tab (by decide +kernel) i
theorem d_Row_put_0 : decode (jm_cod M_Row_put) 0 = .ok (.aload_n 0, 1) := dt_Row_put_c0 0
theorem d_Row_put_1 : decode (jm_cod M_Row_put) 1 = .ok (.invokevirtual 24, 3) := dt_Row_put_c0 1
theorem d_Row_put_4 : decode (jm_cod M_Row_put) 4 = .ok (.ifCond .eq 44, 3) := dt_Row_put_c0 2
theorem d_Row_put_7 : decode (jm_cod M_Row_put) 7 = .ok (.aload_n 0, 1) := dt_Row_put_c0 3
theorem d_Row_put_8 : decode (jm_cod M_Row_put) 8 = .ok (.getfield 7, 3) := dt_Row_put_c0 4
theorem d_Row_put_11 : decode (jm_cod M_Row_put) 11 = .ok (.aload_n 0, 1) := dt_Row_put_c0 5
theorem d_Row_put_12 : decode (jm_cod M_Row_put) 12 = .ok (.getfield 20, 3) := dt_Row_put_c0 6
theorem d_Row_put_15 : decode (jm_cod M_Row_put) 15 = .ok (.lload_n 1, 1) := dt_Row_put_c0 7
theorem d_Row_put_16 : decode (jm_cod M_Row_put) 16 = .ok (.lastore, 1) := dt_Row_put_c0 8
theorem d_Row_put_17 : decode (jm_cod M_Row_put) 17 = .ok (.aload_n 0, 1) := dt_Row_put_c0 9
theorem d_Row_put_18 : decode (jm_cod M_Row_put) 18 = .ok (.getfield 13, 3) := dt_Row_put_c0 10
theorem d_Row_put_21 : decode (jm_cod M_Row_put) 21 = .ok (.aload_n 0, 1) := dt_Row_put_c0 11
theorem d_Row_put_22 : decode (jm_cod M_Row_put) 22 = .ok (.getfield 20, 3) := dt_Row_put_c0 12
theorem d_Row_put_25 : decode (jm_cod M_Row_put) 25 = .ok (.iload_n 3, 1) := dt_Row_put_c0 13
theorem d_Row_put_26 : decode (jm_cod M_Row_put) 26 = .ok (.iastore, 1) := dt_Row_put_c0 14
theorem d_Row_put_27 : decode (jm_cod M_Row_put) 27 = .ok (.aload_n 0, 1) := dt_Row_put_c0 15
theorem d_Row_put_28 : decode (jm_cod M_Row_put) 28 = .ok (.getfield 17, 3) := dt_Row_put_c0 16
theorem d_Row_put_31 : decode (jm_cod M_Row_put) 31 = .ok (.aload_n 0, 1) := dt_Row_put_c0 17
theorem d_Row_put_32 : decode (jm_cod M_Row_put) 32 = .ok (.getfield 20, 3) := dt_Row_put_c0 18
theorem d_Row_put_35 : decode (jm_cod M_Row_put) 35 = .ok (.iload 4, 2) := dt_Row_put_c0 19
theorem d_Row_put_37 : decode (jm_cod M_Row_put) 37 = .ok (.iastore, 1) := dt_Row_put_c0 20
theorem d_Row_put_38 : decode (jm_cod M_Row_put) 38 = .ok (.aload_n 0, 1) := dt_Row_put_c0 21
theorem d_Row_put_39 : decode (jm_cod M_Row_put) 39 = .ok (.dup, 1) := dt_Row_put_c0 22
theorem d_Row_put_40 : decode (jm_cod M_Row_put) 40 = .ok (.getfield 20, 3) := dt_Row_put_c0 23
def tab_Row_put_c1 : List (Nat × Instr × Nat) := [(43, .iconst 1, 1), (44, .iadd, 1), (45, .putfield 20, 3), (48, .return_, 1)]
theorem dt_Row_put_c1 (i : Nat) : decode (jm_cod M_Row_put) (tab_Row_put_c1.getD i (43, .iconst 1, 1)).1 = .ok ((tab_Row_put_c1.getD i (43, .iconst 1, 1)).2.1, (tab_Row_put_c1.getD i (43, .iconst 1, 1)).2.2) := j_tab (by decide +kernel) i
theorem d_Row_put_43 : decode (jm_cod M_Row_put) 43 = .ok (.iconst 1, 1) := dt_Row_put_c1 0
theorem d_Row_put_44 : decode (jm_cod M_Row_put) 44 = .ok (.iadd, 1) := dt_Row_put_c1 1
theorem d_Row_put_45 : decode (jm_cod M_Row_put) 45 = .ok (.putfield 20, 3) := dt_Row_put_c1 2
theorem d_Row_put_48 : decode (jm_cod M_Row_put) 48 = .ok (.return_, 1) := dt_Row_put_c1 3
def tab_Row_drop_c0 : List (Nat × Instr × Nat) := [(0, .iconst 1, 1), (1, .istore_n 1, 1), (2, .iload_n 1, 1), (3, .aload_n 0, 1), (4, .getfield 20, 3), (7, .if_icmp .ge 51, 3), (10, .aload_n 0, 1), (11, .getfield 7, 3), (14, .iload_n 1, 1), (15, .iconst 1, 1), (16, .isub, 1), (17, .aload_n 0, 1), (18, .getfield 7, 3), (21, .iload_n 1, 1), (22, .laload, 1), (23, .lastore, 1), (24, .aload_n 0, 1), (25, .getfield 13, 3), (28, .iload_n 1, 1), (29, .iconst 1, 1), (30, .isub, 1), (31, .aload_n 0, 1), (32, .getfield 13, 3), (35, .iload_n 1, 1)]
theorem dt_Row_drop_c0 (i : Nat) : decode (jm_cod M_Row_drop) (tab_Row_drop_c0.getD i (0, .iconst 1, 1)).1 = .ok ((tab_Row_drop_c0.getD i (0, .iconst 1, 1)).2.1, (tab_Row_drop_c0.getD i (0, .iconst 1, 1)).2.2) := j_tab (by decide +kernel) i
theorem d_Row_drop_0 : decode (jm_cod M_Row_drop) 0 = .ok (.iconst 1, 1) := dt_Row_drop_c0 0
theorem d_Row_drop_1 : decode (jm_cod M_Row_drop) 1 = .ok (.istore_n 1, 1) := dt_Row_drop_c0 1
theorem d_Row_drop_2 : decode (jm_cod M_Row_drop) 2 = .ok (.iload_n 1, 1) := dt_Row_drop_c0 2
theorem d_Row_drop_3 : decode (jm_cod M_Row_drop) 3 = .ok (.aload_n 0, 1) := dt_Row_drop_c0 3
theorem d_Row_drop_4 : decode (jm_cod M_Row_drop) 4 = .ok (.getfield 20, 3) := dt_Row_drop_c0 4
theorem d_Row_drop_7 : decode (jm_cod M_Row_drop) 7 = .ok (.if_icmp .ge 51, 3) := dt_Row_drop_c0 5
theorem d_Row_drop_10 : decode (jm_cod M_Row_drop) 10 = .ok (.aload_n 0, 1) := dt_Row_drop_c0 6
theorem d_Row_drop_11 : decode (jm_cod M_Row_drop) 11 = .ok (.getfield 7, 3) := dt_Row_drop_c0 7
theorem d_Row_drop_14 : decode (jm_cod M_Row_drop) 14 = .ok (.iload_n 1, 1) := dt_Row_drop_c0 8
theorem d_Row_drop_15 : decode (jm_cod M_Row_drop) 15 = .ok (.iconst 1, 1) := dt_Row_drop_c0 9
theorem d_Row_drop_16 : decode (jm_cod M_Row_drop) 16 = .ok (.isub, 1) := dt_Row_drop_c0 10
theorem d_Row_drop_17 : decode (jm_cod M_Row_drop) 17 = .ok (.aload_n 0, 1) := dt_Row_drop_c0 11
theorem d_Row_drop_18 : decode (jm_cod M_Row_drop) 18 = .ok (.getfield 7, 3) := dt_Row_drop_c0 12
theorem d_Row_drop_21 : decode (jm_cod M_Row_drop) 21 = .ok (.iload_n 1, 1) := dt_Row_drop_c0 13
theorem d_Row_drop_22 : decode (jm_cod M_Row_drop) 22 = .ok (.laload, 1) := dt_Row_drop_c0 14
theorem d_Row_drop_23 : decode (jm_cod M_Row_drop) 23 = .ok (.lastore, 1) := dt_Row_drop_c0 15
theorem d_Row_drop_24 : decode (jm_cod M_Row_drop) 24 = .ok (.aload_n 0, 1) := dt_Row_drop_c0 16
theorem d_Row_drop_25 : decode (jm_cod M_Row_drop) 25 = .ok (.getfield 13, 3) := dt_Row_drop_c0 17
theorem d_Row_drop_28 : decode (jm_cod M_Row_drop) 28 = .ok (.iload_n 1, 1) := dt_Row_drop_c0 18
theorem d_Row_drop_29 : decode (jm_cod M_Row_drop) 29 = .ok (.iconst 1, 1) := dt_Row_drop_c0 19
theorem d_Row_drop_30 : decode (jm_cod M_Row_drop) 30 = .ok (.isub, 1) := dt_Row_drop_c0 20
theorem d_Row_drop_31 : decode (jm_cod M_Row_drop) 31 = .ok (.aload_n 0, 1) := dt_Row_drop_c0 21
theorem d_Row_drop_32 : decode (jm_cod M_Row_drop) 32 = .ok (.getfield 13, 3) := dt_Row_drop_c0 22
theorem d_Row_drop_35 : decode (jm_cod M_Row_drop) 35 = .ok (.iload_n 1, 1) := dt_Row_drop_c0 23
def tab_Row_drop_c1 : List (Nat × Instr × Nat) := [(36, .iaload, 1), (37, .iastore, 1), (38, .aload_n 0, 1), (39, .getfield 17, 3), (42, .iload_n 1, 1), (43, .iconst 1, 1), (44, .isub, 1), (45, .aload_n 0, 1), (46, .getfield 17, 3), (49, .iload_n 1, 1), (50, .iaload, 1), (51, .iastore, 1), (52, .iinc 1 1, 3), (55, .goto (-53), 3), (58, .aload_n 0, 1), (59, .getfield 20, 3), (62, .ifCond .le 13, 3), (65, .aload_n 0, 1), (66, .dup, 1), (67, .getfield 20, 3), (70, .iconst 1, 1), (71, .isub, 1), (72, .putfield 20, 3), (75, .return_, 1)]
theorem dt_Row_drop_c1 (i : Nat) : decode (jm_cod M_Row_drop) (tab_Row_drop_c1.getD i (36, .iaload, 1)).1 = .ok ((tab_Row_drop_c1.getD i (36, .iaload, 1)).2.1, (tab_Row_drop_c1.getD i (36, .iaload, 1)).2.2) := j_tab (by decide +kernel) i
theorem d_Row_drop_36 : decode (jm_cod M_Row_drop) 36 = .ok (.iaload, 1) := dt_Row_drop_c1 0
theorem d_Row_drop_37 : decode (jm_cod M_Row_drop) 37 = .ok (.iastore, 1) := dt_Row_drop_c1 1
theorem d_Row_drop_38 : decode (jm_cod M_Row_drop) 38 = .ok (.aload_n 0, 1) := dt_Row_drop_c1 2
theorem d_Row_drop_39 : decode (jm_cod M_Row_drop) 39 = .ok (.getfield 17, 3) := dt_Row_drop_c1 3
theorem d_Row_drop_42 : decode (jm_cod M_Row_drop) 42 = .ok (.iload_n 1, 1) := dt_Row_drop_c1 4
theorem d_Row_drop_43 : decode (jm_cod M_Row_drop) 43 = .ok (.iconst 1, 1) := dt_Row_drop_c1 5
theorem d_Row_drop_44 : decode (jm_cod M_Row_drop) 44 = .ok (.isub, 1) := dt_Row_drop_c1 6
theorem d_Row_drop_45 : decode (jm_cod M_Row_drop) 45 = .ok (.aload_n 0, 1) := dt_Row_drop_c1 7
theorem d_Row_drop_46 : decode (jm_cod M_Row_drop) 46 = .ok (.getfield 17, 3) := dt_Row_drop_c1 8
theorem d_Row_drop_49 : decode (jm_cod M_Row_drop) 49 = .ok (.iload_n 1, 1) := dt_Row_drop_c1 9
theorem d_Row_drop_50 : decode (jm_cod M_Row_drop) 50 = .ok (.iaload, 1) := dt_Row_drop_c1 10
theorem d_Row_drop_51 : decode (jm_cod M_Row_drop) 51 = .ok (.iastore, 1) := dt_Row_drop_c1 11
theorem d_Row_drop_52 : decode (jm_cod M_Row_drop) 52 = .ok (.iinc 1 1, 3) := dt_Row_drop_c1 12
theorem d_Row_drop_55 : decode (jm_cod M_Row_drop) 55 = .ok (.goto (-53), 3) := dt_Row_drop_c1 13
theorem d_Row_drop_58 : decode (jm_cod M_Row_drop) 58 = .ok (.aload_n 0, 1) := dt_Row_drop_c1 14
theorem d_Row_drop_59 : decode (jm_cod M_Row_drop) 59 = .ok (.getfield 20, 3) := dt_Row_drop_c1 15
theorem d_Row_drop_62 : decode (jm_cod M_Row_drop) 62 = .ok (.ifCond .le 13, 3) := dt_Row_drop_c1 16
theorem d_Row_drop_65 : decode (jm_cod M_Row_drop) 65 = .ok (.aload_n 0, 1) := dt_Row_drop_c1 17
theorem d_Row_drop_66 : decode (jm_cod M_Row_drop) 66 = .ok (.dup, 1) := dt_Row_drop_c1 18
theorem d_Row_drop_67 : decode (jm_cod M_Row_drop) 67 = .ok (.getfield 20, 3) := dt_Row_drop_c1 19
theorem d_Row_drop_70 : decode (jm_cod M_Row_drop) 70 = .ok (.iconst 1, 1) := dt_Row_drop_c1 20
theorem d_Row_drop_71 : decode (jm_cod M_Row_drop) 71 = .ok (.isub, 1) := dt_Row_drop_c1 21
theorem d_Row_drop_72 : decode (jm_cod M_Row_drop) 72 = .ok (.putfield 20, 3) := dt_Row_drop_c1 22
theorem d_Row_drop_75 : decode (jm_cod M_Row_drop) 75 = .ok (.return_, 1) := dt_Row_drop_c1 23
def tab_Row_firstCame_c0 : List (Nat × Instr × Nat) := [(0, .aload_n 0, 1), (1, .getfield 20, 3), (4, .ifCond .le 12, 3), (7, .aload_n 0, 1), (8, .getfield 17, 3), (11, .iconst 0, 1), (12, .iaload, 1), (13, .goto 4, 3), (16, .iconst 0, 1), (17, .ireturn, 1)]
theorem dt_Row_firstCame_c0 (i : Nat) : decode (jm_cod M_Row_firstCame) (tab_Row_firstCame_c0.getD i (0, .aload_n 0, 1)).1 = .ok ((tab_Row_firstCame_c0.getD i (0, .aload_n 0, 1)).2.1, (tab_Row_firstCame_c0.getD i (0, .aload_n 0, 1)).2.2) := j_tab (by decide +kernel) i
theorem d_Row_firstCame_0 : decode (jm_cod M_Row_firstCame) 0 = .ok (.aload_n 0, 1) := dt_Row_firstCame_c0 0
theorem d_Row_firstCame_1 : decode (jm_cod M_Row_firstCame) 1 = .ok (.getfield 20, 3) := dt_Row_firstCame_c0 1
theorem d_Row_firstCame_4 : decode (jm_cod M_Row_firstCame) 4 = .ok (.ifCond .le 12, 3) := dt_Row_firstCame_c0 2
theorem d_Row_firstCame_7 : decode (jm_cod M_Row_firstCame) 7 = .ok (.aload_n 0, 1) := dt_Row_firstCame_c0 3
theorem d_Row_firstCame_8 : decode (jm_cod M_Row_firstCame) 8 = .ok (.getfield 17, 3) := dt_Row_firstCame_c0 4
theorem d_Row_firstCame_11 : decode (jm_cod M_Row_firstCame) 11 = .ok (.iconst 0, 1) := dt_Row_firstCame_c0 5
theorem d_Row_firstCame_12 : decode (jm_cod M_Row_firstCame) 12 = .ok (.iaload, 1) := dt_Row_firstCame_c0 6
theorem d_Row_firstCame_13 : decode (jm_cod M_Row_firstCame) 13 = .ok (.goto 4, 3) := dt_Row_firstCame_c0 7
theorem d_Row_firstCame_16 : decode (jm_cod M_Row_firstCame) 16 = .ok (.iconst 0, 1) := dt_Row_firstCame_c0 8
theorem d_Row_firstCame_17 : decode (jm_cod M_Row_firstCame) 17 = .ok (.ireturn, 1) := dt_Row_firstCame_c0 9
