def tab_Object_init_c0 : List (Nat × Instr × Nat) := [(0, .return_, 1)]
theorem dt_Object_init_c0 (i : Nat) : decode (jm_cod M_Object_init) (tab_Object_init_c0.getD i (0, .return_, 1)).1 = .ok ((tab_Object_init_c0.getD i (0, .return_, 1)).2.1, (tab_Object_init_c0.getD i (0, .return_, 1)).2.2) := j_tab (by decide +kernel) i
theorem d_Object_init_0 : decode (jm_cod M_Object_init) 0 = .ok (.return_, 1) := dt_Object_init_c0 0
def tab_Math_min_c0 : List (Nat × Instr × Nat) := [(0, .iload_n 0, 1), (1, .iload_n 1, 1), (2, .if_icmp .gt 7, 3), (5, .iload_n 0, 1), (6, .goto 4, 3), (9, .iload_n 1, 1), (10, .ireturn, 1)]
theorem dt_Math_min_c0 (i : Nat) : decode (jm_cod M_Math_min) (tab_Math_min_c0.getD i (0, .iload_n 0, 1)).1 = .ok ((tab_Math_min_c0.getD i (0, .iload_n 0, 1)).2.1, (tab_Math_min_c0.getD i (0, .iload_n 0, 1)).2.2) := j_tab (by decide +kernel) i
theorem d_Math_min_0 : decode (jm_cod M_Math_min) 0 = .ok (.iload_n 0, 1) := dt_Math_min_c0 0
theorem d_Math_min_1 : decode (jm_cod M_Math_min) 1 = .ok (.iload_n 1, 1) := dt_Math_min_c0 1
theorem d_Math_min_2 : decode (jm_cod M_Math_min) 2 = .ok (.if_icmp .gt 7, 3) := dt_Math_min_c0 2
theorem d_Math_min_5 : decode (jm_cod M_Math_min) 5 = .ok (.iload_n 0, 1) := dt_Math_min_c0 3
theorem d_Math_min_6 : decode (jm_cod M_Math_min) 6 = .ok (.goto 4, 3) := dt_Math_min_c0 4
theorem d_Math_min_9 : decode (jm_cod M_Math_min) 9 = .ok (.iload_n 1, 1) := dt_Math_min_c0 5
theorem d_Math_min_10 : decode (jm_cod M_Math_min) 10 = .ok (.ireturn, 1) := dt_Math_min_c0 6
def tab_Math_max_c0 : List (Nat × Instr × Nat) := [(0, .iload_n 0, 1), (1, .iload_n 1, 1), (2, .if_icmp .lt 7, 3), (5, .iload_n 0, 1), (6, .goto 4, 3), (9, .iload_n 1, 1), (10, .ireturn, 1)]
theorem dt_Math_max_c0 (i : Nat) : decode (jm_cod M_Math_max) (tab_Math_max_c0.getD i (0, .iload_n 0, 1)).1 = .ok ((tab_Math_max_c0.getD i (0, .iload_n 0, 1)).2.1, (tab_Math_max_c0.getD i (0, .iload_n 0, 1)).2.2) := j_tab (by decide +kernel) i
theorem d_Math_max_0 : decode (jm_cod M_Math_max) 0 = .ok (.iload_n 0, 1) := dt_Math_max_c0 0
theorem d_Math_max_1 : decode (jm_cod M_Math_max) 1 = .ok (.iload_n 1, 1) := dt_Math_max_c0 1
theorem d_Math_max_2 : decode (jm_cod M_Math_max) 2 = .ok (.if_icmp .lt 7, 3) := dt_Math_max_c0 2
theorem d_Math_max_5 : decode (jm_cod M_Math_max) 5 = .ok (.iload_n 0, 1) := dt_Math_max_c0 3
theorem d_Math_max_6 : decode (jm_cod M_Math_max) 6 = .ok (.goto 4, 3) := dt_Math_max_c0 4
theorem d_Math_max_9 : decode (jm_cod M_Math_max) 9 = .ok (.iload_n 1, 1) := dt_Math_max_c0 5
theorem d_Math_max_10 : decode (jm_cod M_Math_max) 10 = .ok (.ireturn, 1) := dt_Math_max_c0 6
def tab_Arrays_fill1_c0 : List (Nat × Instr × Nat) := [(0, .iconst 0, 1), (1, .istore_n 2, 1), (2, .aload_n 0, 1), (3, .arraylength, 1), (4, .istore_n 3, 1), (5, .iload_n 2, 1), (6, .iload_n 3, 1), (7, .if_icmp .ge 13, 3), (10, .aload_n 0, 1), (11, .iload_n 2, 1), (12, .iload_n 1, 1), (13, .iastore, 1), (14, .iinc 2 1, 3), (17, .goto (-12), 3), (20, .return_, 1)]
theorem dt_Arrays_fill1_c0 (i : Nat) : decode (jm_cod M_Arrays_fill1) (tab_Arrays_fill1_c0.getD i (0, .iconst 0, 1)).1 = .ok ((tab_Arrays_fill1_c0.getD i (0, .iconst 0, 1)).2.1, (tab_Arrays_fill1_c0.getD i (0, .iconst 0, 1)).2.2) := j_tab (by decide +kernel) i
theorem d_Arrays_fill1_0 : decode (jm_cod M_Arrays_fill1) 0 = .ok (.iconst 0, 1) := dt_Arrays_fill1_c0 0
theorem d_Arrays_fill1_1 : decode (jm_cod M_Arrays_fill1) 1 = .ok (.istore_n 2, 1) := dt_Arrays_fill1_c0 1
theorem d_Arrays_fill1_2 : decode (jm_cod M_Arrays_fill1) 2 = .ok (.aload_n 0, 1) := dt_Arrays_fill1_c0 2
theorem d_Arrays_fill1_3 : decode (jm_cod M_Arrays_fill1) 3 = .ok (.arraylength, 1) := dt_Arrays_fill1_c0 3
theorem d_Arrays_fill1_4 : decode (jm_cod M_Arrays_fill1) 4 = .ok (.istore_n 3, 1) := dt_Arrays_fill1_c0 4
theorem d_Arrays_fill1_5 : decode (jm_cod M_Arrays_fill1) 5 = .ok (.iload_n 2, 1) := dt_Arrays_fill1_c0 5
theorem d_Arrays_fill1_6 : decode (jm_cod M_Arrays_fill1) 6 = .ok (.iload_n 3, 1) := dt_Arrays_fill1_c0 6
theorem d_Arrays_fill1_7 : decode (jm_cod M_Arrays_fill1) 7 = .ok (.if_icmp .ge 13, 3) := dt_Arrays_fill1_c0 7
theorem d_Arrays_fill1_10 : decode (jm_cod M_Arrays_fill1) 10 = .ok (.aload_n 0, 1) := dt_Arrays_fill1_c0 8
theorem d_Arrays_fill1_11 : decode (jm_cod M_Arrays_fill1) 11 = .ok (.iload_n 2, 1) := dt_Arrays_fill1_c0 9
theorem d_Arrays_fill1_12 : decode (jm_cod M_Arrays_fill1) 12 = .ok (.iload_n 1, 1) := dt_Arrays_fill1_c0 10
theorem d_Arrays_fill1_13 : decode (jm_cod M_Arrays_fill1) 13 = .ok (.iastore, 1) := dt_Arrays_fill1_c0 11
theorem d_Arrays_fill1_14 : decode (jm_cod M_Arrays_fill1) 14 = .ok (.iinc 2 1, 3) := dt_Arrays_fill1_c0 12
theorem d_Arrays_fill1_17 : decode (jm_cod M_Arrays_fill1) 17 = .ok (.goto (-12), 3) := dt_Arrays_fill1_c0 13
theorem d_Arrays_fill1_20 : decode (jm_cod M_Arrays_fill1) 20 = .ok (.return_, 1) := dt_Arrays_fill1_c0 14
def tab_Arrays_fill2_c0 : List (Nat × Instr × Nat) := [(0, .iconst 0, 1), (1, .istore_n 3, 1), (2, .aload_n 0, 1), (3, .arraylength, 1), (4, .istore 4, 2), (6, .iload_n 3, 1), (7, .iload 4, 2), (9, .if_icmp .ge 13, 3), (12, .aload_n 0, 1), (13, .iload_n 3, 1), (14, .lload_n 1, 1), (15, .lastore, 1), (16, .iinc 3 1, 3), (19, .goto (-13), 3), (22, .return_, 1)]
theorem dt_Arrays_fill2_c0 (i : Nat) : decode (jm_cod M_Arrays_fill2) (tab_Arrays_fill2_c0.getD i (0, .iconst 0, 1)).1 = .ok ((tab_Arrays_fill2_c0.getD i (0, .iconst 0, 1)).2.1, (tab_Arrays_fill2_c0.getD i (0, .iconst 0, 1)).2.2) := j_tab (by decide +kernel) i
theorem d_Arrays_fill2_0 : decode (jm_cod M_Arrays_fill2) 0 = .ok (.iconst 0, 1) := dt_Arrays_fill2_c0 0
theorem d_Arrays_fill2_1 : decode (jm_cod M_Arrays_fill2) 1 = .ok (.istore_n 3, 1) := dt_Arrays_fill2_c0 1
theorem d_Arrays_fill2_2 : decode (jm_cod M_Arrays_fill2) 2 = .ok (.aload_n 0, 1) := dt_Arrays_fill2_c0 2
theorem d_Arrays_fill2_3 : decode (jm_cod M_Arrays_fill2) 3 = .ok (.arraylength, 1) := dt_Arrays_fill2_c0 3
theorem d_Arrays_fill2_4 : decode (jm_cod M_Arrays_fill2) 4 = .ok (.istore 4, 2) := dt_Arrays_fill2_c0 4
theorem d_Arrays_fill2_6 : decode (jm_cod M_Arrays_fill2) 6 = .ok (.iload_n 3, 1) := dt_Arrays_fill2_c0 5
theorem d_Arrays_fill2_7 : decode (jm_cod M_Arrays_fill2) 7 = .ok (.iload 4, 2) := dt_Arrays_fill2_c0 6
theorem d_Arrays_fill2_9 : decode (jm_cod M_Arrays_fill2) 9 = .ok (.if_icmp .ge 13, 3) := dt_Arrays_fill2_c0 7
theorem d_Arrays_fill2_12 : decode (jm_cod M_Arrays_fill2) 12 = .ok (.aload_n 0, 1) := dt_Arrays_fill2_c0 8
theorem d_Arrays_fill2_13 : decode (jm_cod M_Arrays_fill2) 13 = .ok (.iload_n 3, 1) := dt_Arrays_fill2_c0 9
theorem d_Arrays_fill2_14 : decode (jm_cod M_Arrays_fill2) 14 = .ok (.lload_n 1, 1) := dt_Arrays_fill2_c0 10
theorem d_Arrays_fill2_15 : decode (jm_cod M_Arrays_fill2) 15 = .ok (.lastore, 1) := dt_Arrays_fill2_c0 11
theorem d_Arrays_fill2_16 : decode (jm_cod M_Arrays_fill2) 16 = .ok (.iinc 3 1, 3) := dt_Arrays_fill2_c0 12
theorem d_Arrays_fill2_19 : decode (jm_cod M_Arrays_fill2) 19 = .ok (.goto (-13), 3) := dt_Arrays_fill2_c0 13
theorem d_Arrays_fill2_22 : decode (jm_cod M_Arrays_fill2) 22 = .ok (.return_, 1) := dt_Arrays_fill2_c0 14
def tab_Long_bitCount_c0 : List (Nat × Instr × Nat) := [(0, .lload_n 0, 1), (1, .lload_n 0, 1), (2, .iconst 1, 1), (3, .lushr, 1), (4, .ldc2_w 314, 3), (7, .land, 1), (8, .lsub, 1), (9, .lstore_n 0, 1), (10, .lload_n 0, 1), (11, .ldc2_w 316, 3), (14, .land, 1), (15, .lload_n 0, 1), (16, .iconst 2, 1), (17, .lushr, 1), (18, .ldc2_w 316, 3), (21, .land, 1), (22, .ladd, 1), (23, .lstore_n 0, 1), (24, .lload_n 0, 1), (25, .lload_n 0, 1), (26, .iconst 4, 1), (27, .lushr, 1), (28, .ladd, 1), (29, .ldc2_w 318, 3)]
theorem dt_Long_bitCount_c0 (i : Nat) : decode (jm_cod M_Long_bitCount) (tab_Long_bitCount_c0.getD i (0, .lload_n 0, 1)).1 = .ok ((tab_Long_bitCount_c0.getD i (0, .lload_n 0, 1)).2.1, (tab_Long_bitCount_c0.getD i (0, .lload_n 0, 1)).2.2) := j_tab (by decide +kernel) i
theorem d_Long_bitCount_0 : decode (jm_cod M_Long_bitCount) 0 = .ok (.lload_n 0, 1) := dt_Long_bitCount_c0 0
theorem d_Long_bitCount_1 : decode (jm_cod M_Long_bitCount) 1 = .ok (.lload_n 0, 1) := dt_Long_bitCount_c0 1
theorem d_Long_bitCount_2 : decode (jm_cod M_Long_bitCount) 2 = .ok (.iconst 1, 1) := dt_Long_bitCount_c0 2
theorem d_Long_bitCount_3 : decode (jm_cod M_Long_bitCount) 3 = .ok (.lushr, 1) := dt_Long_bitCount_c0 3
theorem d_Long_bitCount_4 : decode (jm_cod M_Long_bitCount) 4 = .ok (.ldc2_w 314, 3) := dt_Long_bitCount_c0 4
theorem d_Long_bitCount_7 : decode (jm_cod M_Long_bitCount) 7 = .ok (.land, 1) := dt_Long_bitCount_c0 5
theorem d_Long_bitCount_8 : decode (jm_cod M_Long_bitCount) 8 = .ok (.lsub, 1) := dt_Long_bitCount_c0 6
theorem d_Long_bitCount_9 : decode (jm_cod M_Long_bitCount) 9 = .ok (.lstore_n 0, 1) := dt_Long_bitCount_c0 7
theorem d_Long_bitCount_10 : decode (jm_cod M_Long_bitCount) 10 = .ok (.lload_n 0, 1) := dt_Long_bitCount_c0 8
theorem d_Long_bitCount_11 : decode (jm_cod M_Long_bitCount) 11 = .ok (.ldc2_w 316, 3) := dt_Long_bitCount_c0 9
theorem d_Long_bitCount_14 : decode (jm_cod M_Long_bitCount) 14 = .ok (.land, 1) := dt_Long_bitCount_c0 10
theorem d_Long_bitCount_15 : decode (jm_cod M_Long_bitCount) 15 = .ok (.lload_n 0, 1) := dt_Long_bitCount_c0 11
theorem d_Long_bitCount_16 : decode (jm_cod M_Long_bitCount) 16 = .ok (.iconst 2, 1) := dt_Long_bitCount_c0 12
theorem d_Long_bitCount_17 : decode (jm_cod M_Long_bitCount) 17 = .ok (.lushr, 1) := dt_Long_bitCount_c0 13
theorem d_Long_bitCount_18 : decode (jm_cod M_Long_bitCount) 18 = .ok (.ldc2_w 316, 3) := dt_Long_bitCount_c0 14
theorem d_Long_bitCount_21 : decode (jm_cod M_Long_bitCount) 21 = .ok (.land, 1) := dt_Long_bitCount_c0 15
theorem d_Long_bitCount_22 : decode (jm_cod M_Long_bitCount) 22 = .ok (.ladd, 1) := dt_Long_bitCount_c0 16
theorem d_Long_bitCount_23 : decode (jm_cod M_Long_bitCount) 23 = .ok (.lstore_n 0, 1) := dt_Long_bitCount_c0 17
theorem d_Long_bitCount_24 : decode (jm_cod M_Long_bitCount) 24 = .ok (.lload_n 0, 1) := dt_Long_bitCount_c0 18
theorem d_Long_bitCount_25 : decode (jm_cod M_Long_bitCount) 25 = .ok (.lload_n 0, 1) := dt_Long_bitCount_c0 19
theorem d_Long_bitCount_26 : decode (jm_cod M_Long_bitCount) 26 = .ok (.iconst 4, 1) := dt_Long_bitCount_c0 20
theorem d_Long_bitCount_27 : decode (jm_cod M_Long_bitCount) 27 = .ok (.lushr, 1) := dt_Long_bitCount_c0 21
theorem d_Long_bitCount_28 : decode (jm_cod M_Long_bitCount) 28 = .ok (.ladd, 1) := dt_Long_bitCount_c0 22
theorem d_Long_bitCount_29 : decode (jm_cod M_Long_bitCount) 29 = .ok (.ldc2_w 318, 3) := dt_Long_bitCount_c0 23
def tab_Long_bitCount_c1 : List (Nat × Instr × Nat) := [(32, .land, 1), (33, .lstore_n 0, 1), (34, .lload_n 0, 1), (35, .lload_n 0, 1), (36, .bipush 8, 2), (38, .lushr, 1), (39, .ladd, 1), (40, .lstore_n 0, 1), (41, .lload_n 0, 1), (42, .lload_n 0, 1), (43, .bipush 16, 2), (45, .lushr, 1), (46, .ladd, 1), (47, .lstore_n 0, 1), (48, .lload_n 0, 1), (49, .lload_n 0, 1), (50, .bipush 32, 2), (52, .lushr, 1), (53, .ladd, 1), (54, .lstore_n 0, 1), (55, .lload_n 0, 1), (56, .l2i, 1), (57, .bipush 127, 2), (59, .iand, 1)]
theorem dt_Long_bitCount_c1 (i : Nat) : decode (jm_cod M_Long_bitCount) (tab_Long_bitCount_c1.getD i (32, .land, 1)).1 = .ok ((tab_Long_bitCount_c1.getD i (32, .land, 1)).2.1, (tab_Long_bitCount_c1.getD i (32, .land, 1)).2.2) := j_tab (by decide +kernel) i
theorem d_Long_bitCount_32 : decode (jm_cod M_Long_bitCount) 32 = .ok (.land, 1) := dt_Long_bitCount_c1 0
theorem d_Long_bitCount_33 : decode (jm_cod M_Long_bitCount) 33 = .ok (.lstore_n 0, 1) := dt_Long_bitCount_c1 1
theorem d_Long_bitCount_34 : decode (jm_cod M_Long_bitCount) 34 = .ok (.lload_n 0, 1) := dt_Long_bitCount_c1 2
theorem d_Long_bitCount_35 : decode (jm_cod M_Long_bitCount) 35 = .ok (.lload_n 0, 1) := dt_Long_bitCount_c1 3
theorem d_Long_bitCount_36 : decode (jm_cod M_Long_bitCount) 36 = .ok (.bipush 8, 2) := dt_Long_bitCount_c1 4
theorem d_Long_bitCount_38 : decode (jm_cod M_Long_bitCount) 38 = .ok (.lushr, 1) := dt_Long_bitCount_c1 5
theorem d_Long_bitCount_39 : decode (jm_cod M_Long_bitCount) 39 = .ok (.ladd, 1) := dt_Long_bitCount_c1 6
theorem d_Long_bitCount_40 : decode (jm_cod M_Long_bitCount) 40 = .ok (.lstore_n 0, 1) := dt_Long_bitCount_c1 7
theorem d_Long_bitCount_41 : decode (jm_cod M_Long_bitCount) 41 = .ok (.lload_n 0, 1) := dt_Long_bitCount_c1 8
theorem d_Long_bitCount_42 : decode (jm_cod M_Long_bitCount) 42 = .ok (.lload_n 0, 1) := dt_Long_bitCount_c1 9
theorem d_Long_bitCount_43 : decode (jm_cod M_Long_bitCount) 43 = .ok (.bipush 16, 2) := dt_Long_bitCount_c1 10
theorem d_Long_bitCount_45 : decode (jm_cod M_Long_bitCount) 45 = .ok (.lushr, 1) := dt_Long_bitCount_c1 11
theorem d_Long_bitCount_46 : decode (jm_cod M_Long_bitCount) 46 = .ok (.ladd, 1) := dt_Long_bitCount_c1 12
theorem d_Long_bitCount_47 : decode (jm_cod M_Long_bitCount) 47 = .ok (.lstore_n 0, 1) := dt_Long_bitCount_c1 13
theorem d_Long_bitCount_48 : decode (jm_cod M_Long_bitCount) 48 = .ok (.lload_n 0, 1) := dt_Long_bitCount_c1 14
theorem d_Long_bitCount_49 : decode (jm_cod M_Long_bitCount) 49 = .ok (.lload_n 0, 1) := dt_Long_bitCount_c1 15
theorem d_Long_bitCount_50 : decode (jm_cod M_Long_bitCount) 50 = .ok (.bipush 32, 2) := dt_Long_bitCount_c1 16
theorem d_Long_bitCount_52 : decode (jm_cod M_Long_bitCount) 52 = .ok (.lushr, 1) := dt_Long_bitCount_c1 17
theorem d_Long_bitCount_53 : decode (jm_cod M_Long_bitCount) 53 = .ok (.ladd, 1) := dt_Long_bitCount_c1 18
theorem d_Long_bitCount_54 : decode (jm_cod M_Long_bitCount) 54 = .ok (.lstore_n 0, 1) := dt_Long_bitCount_c1 19
theorem d_Long_bitCount_55 : decode (jm_cod M_Long_bitCount) 55 = .ok (.lload_n 0, 1) := dt_Long_bitCount_c1 20
theorem d_Long_bitCount_56 : decode (jm_cod M_Long_bitCount) 56 = .ok (.l2i, 1) := dt_Long_bitCount_c1 21
theorem d_Long_bitCount_57 : decode (jm_cod M_Long_bitCount) 57 = .ok (.bipush 127, 2) := dt_Long_bitCount_c1 22
theorem d_Long_bitCount_59 : decode (jm_cod M_Long_bitCount) 59 = .ok (.iand, 1) := dt_Long_bitCount_c1 23
def tab_Long_bitCount_c2 : List (Nat × Instr × Nat) := [(60, .ireturn, 1)]
theorem dt_Long_bitCount_c2 (i : Nat) : decode (jm_cod M_Long_bitCount) (tab_Long_bitCount_c2.getD i (60, .ireturn, 1)).1 = .ok ((tab_Long_bitCount_c2.getD i (60, .ireturn, 1)).2.1, (tab_Long_bitCount_c2.getD i (60, .ireturn, 1)).2.2) := j_tab (by decide +kernel) i
theorem d_Long_bitCount_60 : decode (jm_cod M_Long_bitCount) 60 = .ok (.ireturn, 1) := dt_Long_bitCount_c2 0
def tab_Integer_bitCount_c0 : List (Nat × Instr × Nat) := [(0, .iload_n 0, 1), (1, .iload_n 0, 1), (2, .iconst 1, 1), (3, .iushr, 1), (4, .ldc_w 265, 3), (7, .iand, 1), (8, .isub, 1), (9, .istore_n 0, 1), (10, .iload_n 0, 1), (11, .ldc_w 266, 3), (14, .iand, 1), (15, .iload_n 0, 1), (16, .iconst 2, 1), (17, .iushr, 1), (18, .ldc_w 266, 3), (21, .iand, 1), (22, .iadd, 1), (23, .istore_n 0, 1), (24, .iload_n 0, 1), (25, .iload_n 0, 1), (26, .iconst 4, 1), (27, .iushr, 1), (28, .iadd, 1), (29, .ldc_w 267, 3)]
theorem dt_Integer_bitCount_c0 (i : Nat) : decode (jm_cod M_Integer_bitCount) (tab_Integer_bitCount_c0.getD i (0, .iload_n 0, 1)).1 = .ok ((tab_Integer_bitCount_c0.getD i (0, .iload_n 0, 1)).2.1, (tab_Integer_bitCount_c0.getD i (0, .iload_n 0, 1)).2.2) := j_tab (by decide +kernel) i
theorem d_Integer_bitCount_0 : decode (jm_cod M_Integer_bitCount) 0 = .ok (.iload_n 0, 1) := dt_Integer_bitCount_c0 0
theorem d_Integer_bitCount_1 : decode (jm_cod M_Integer_bitCount) 1 = .ok (.iload_n 0, 1) := dt_Integer_bitCount_c0 1
theorem d_Integer_bitCount_2 : decode (jm_cod M_Integer_bitCount) 2 = .ok (.iconst 1, 1) := dt_Integer_bitCount_c0 2
theorem d_Integer_bitCount_3 : decode (jm_cod M_Integer_bitCount) 3 = .ok (.iushr, 1) := dt_Integer_bitCount_c0 3
theorem d_Integer_bitCount_4 : decode (jm_cod M_Integer_bitCount) 4 = .ok (.ldc_w 265, 3) := dt_Integer_bitCount_c0 4
theorem d_Integer_bitCount_7 : decode (jm_cod M_Integer_bitCount) 7 = .ok (.iand, 1) := dt_Integer_bitCount_c0 5
theorem d_Integer_bitCount_8 : decode (jm_cod M_Integer_bitCount) 8 = .ok (.isub, 1) := dt_Integer_bitCount_c0 6
theorem d_Integer_bitCount_9 : decode (jm_cod M_Integer_bitCount) 9 = .ok (.istore_n 0, 1) := dt_Integer_bitCount_c0 7
theorem d_Integer_bitCount_10 : decode (jm_cod M_Integer_bitCount) 10 = .ok (.iload_n 0, 1) := dt_Integer_bitCount_c0 8
theorem d_Integer_bitCount_11 : decode (jm_cod M_Integer_bitCount) 11 = .ok (.ldc_w 266, 3) := dt_Integer_bitCount_c0 9
theorem d_Integer_bitCount_14 : decode (jm_cod M_Integer_bitCount) 14 = .ok (.iand, 1) := dt_Integer_bitCount_c0 10
theorem d_Integer_bitCount_15 : decode (jm_cod M_Integer_bitCount) 15 = .ok (.iload_n 0, 1) := dt_Integer_bitCount_c0 11
theorem d_Integer_bitCount_16 : decode (jm_cod M_Integer_bitCount) 16 = .ok (.iconst 2, 1) := dt_Integer_bitCount_c0 12
theorem d_Integer_bitCount_17 : decode (jm_cod M_Integer_bitCount) 17 = .ok (.iushr, 1) := dt_Integer_bitCount_c0 13
theorem d_Integer_bitCount_18 : decode (jm_cod M_Integer_bitCount) 18 = .ok (.ldc_w 266, 3) := dt_Integer_bitCount_c0 14
theorem d_Integer_bitCount_21 : decode (jm_cod M_Integer_bitCount) 21 = .ok (.iand, 1) := dt_Integer_bitCount_c0 15
theorem d_Integer_bitCount_22 : decode (jm_cod M_Integer_bitCount) 22 = .ok (.iadd, 1) := dt_Integer_bitCount_c0 16
theorem d_Integer_bitCount_23 : decode (jm_cod M_Integer_bitCount) 23 = .ok (.istore_n 0, 1) := dt_Integer_bitCount_c0 17
theorem d_Integer_bitCount_24 : decode (jm_cod M_Integer_bitCount) 24 = .ok (.iload_n 0, 1) := dt_Integer_bitCount_c0 18
theorem d_Integer_bitCount_25 : decode (jm_cod M_Integer_bitCount) 25 = .ok (.iload_n 0, 1) := dt_Integer_bitCount_c0 19
theorem d_Integer_bitCount_26 : decode (jm_cod M_Integer_bitCount) 26 = .ok (.iconst 4, 1) := dt_Integer_bitCount_c0 20
theorem d_Integer_bitCount_27 : decode (jm_cod M_Integer_bitCount) 27 = .ok (.iushr, 1) := dt_Integer_bitCount_c0 21
theorem d_Integer_bitCount_28 : decode (jm_cod M_Integer_bitCount) 28 = .ok (.iadd, 1) := dt_Integer_bitCount_c0 22
theorem d_Integer_bitCount_29 : decode (jm_cod M_Integer_bitCount) 29 = .ok (.ldc_w 267, 3) := dt_Integer_bitCount_c0 23
def tab_Integer_bitCount_c1 : List (Nat × Instr × Nat) := [(32, .iand, 1), (33, .istore_n 0, 1), (34, .iload_n 0, 1), (35, .iload_n 0, 1), (36, .bipush 8, 2), (38, .iushr, 1), (39, .iadd, 1), (40, .istore_n 0, 1), (41, .iload_n 0, 1), (42, .iload_n 0, 1), (43, .bipush 16, 2), (45, .iushr, 1), (46, .iadd, 1), (47, .istore_n 0, 1), (48, .iload_n 0, 1), (49, .bipush 63, 2), (51, .iand, 1), (52, .ireturn, 1)]
theorem dt_Integer_bitCount_c1 (i : Nat) : decode (jm_cod M_Integer_bitCount) (tab_Integer_bitCount_c1.getD i (32, .iand, 1)).1 = .ok ((tab_Integer_bitCount_c1.getD i (32, .iand, 1)).2.1, (tab_Integer_bitCount_c1.getD i (32, .iand, 1)).2.2) := j_tab (by decide +kernel) i
theorem d_Integer_bitCount_32 : decode (jm_cod M_Integer_bitCount) 32 = .ok (.iand, 1) := dt_Integer_bitCount_c1 0
theorem d_Integer_bitCount_33 : decode (jm_cod M_Integer_bitCount) 33 = .ok (.istore_n 0, 1) := dt_Integer_bitCount_c1 1
theorem d_Integer_bitCount_34 : decode (jm_cod M_Integer_bitCount) 34 = .ok (.iload_n 0, 1) := dt_Integer_bitCount_c1 2
theorem d_Integer_bitCount_35 : decode (jm_cod M_Integer_bitCount) 35 = .ok (.iload_n 0, 1) := dt_Integer_bitCount_c1 3
theorem d_Integer_bitCount_36 : decode (jm_cod M_Integer_bitCount) 36 = .ok (.bipush 8, 2) := dt_Integer_bitCount_c1 4
theorem d_Integer_bitCount_38 : decode (jm_cod M_Integer_bitCount) 38 = .ok (.iushr, 1) := dt_Integer_bitCount_c1 5
theorem d_Integer_bitCount_39 : decode (jm_cod M_Integer_bitCount) 39 = .ok (.iadd, 1) := dt_Integer_bitCount_c1 6
theorem d_Integer_bitCount_40 : decode (jm_cod M_Integer_bitCount) 40 = .ok (.istore_n 0, 1) := dt_Integer_bitCount_c1 7
theorem d_Integer_bitCount_41 : decode (jm_cod M_Integer_bitCount) 41 = .ok (.iload_n 0, 1) := dt_Integer_bitCount_c1 8
theorem d_Integer_bitCount_42 : decode (jm_cod M_Integer_bitCount) 42 = .ok (.iload_n 0, 1) := dt_Integer_bitCount_c1 9
theorem d_Integer_bitCount_43 : decode (jm_cod M_Integer_bitCount) 43 = .ok (.bipush 16, 2) := dt_Integer_bitCount_c1 10
theorem d_Integer_bitCount_45 : decode (jm_cod M_Integer_bitCount) 45 = .ok (.iushr, 1) := dt_Integer_bitCount_c1 11
theorem d_Integer_bitCount_46 : decode (jm_cod M_Integer_bitCount) 46 = .ok (.iadd, 1) := dt_Integer_bitCount_c1 12
theorem d_Integer_bitCount_47 : decode (jm_cod M_Integer_bitCount) 47 = .ok (.istore_n 0, 1) := dt_Integer_bitCount_c1 13
theorem d_Integer_bitCount_48 : decode (jm_cod M_Integer_bitCount) 48 = .ok (.iload_n 0, 1) := dt_Integer_bitCount_c1 14
theorem d_Integer_bitCount_49 : decode (jm_cod M_Integer_bitCount) 49 = .ok (.bipush 63, 2) := dt_Integer_bitCount_c1 15
theorem d_Integer_bitCount_51 : decode (jm_cod M_Integer_bitCount) 51 = .ok (.iand, 1) := dt_Integer_bitCount_c1 16
theorem d_Integer_bitCount_52 : decode (jm_cod M_Integer_bitCount) 52 = .ok (.ireturn, 1) := dt_Integer_bitCount_c1 17
