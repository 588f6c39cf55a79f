def tab_Ref_addressSent_c1 : List (Nat × Instr × Nat) := [(34, .iload_n 2, 1), (35, .ifCond .ne 7, 3), (38, .iconst 1, 1), (39, .goto 4, 3), (42, .iconst 0, 1), (43, .invokevirtual 344, 3), (46, .aload_n 0, 1), (47, .getfield 348, 3), (50, .iastore, 1), (51, .return_, 1)]
theorem dt_Ref_addressSent_c1 (i : Nat) : decode (jm_cod M_Ref_addressSent) (tab_Ref_addressSent_c1.getD i (34, .iload_n 2, 1)).1 = .ok ((tab_Ref_addressSent_c1.getD i (34, .iload_n 2, 1)).2.1, (tab_Ref_addressSent_c1.getD i (34, .iload_n 2, 1)).2.2) := j_tab (by decide +kernel) i
theorem d_Ref_addressSent_34 : decode (jm_cod M_Ref_addressSent) 34 = .ok (.iload_n 2, 1) := dt_Ref_addressSent_c1 0
theorem d_Ref_addressSent_35 : decode (jm_cod M_Ref_addressSent) 35 = .ok (.ifCond .ne 7, 3) := dt_Ref_addressSent_c1 1
theorem d_Ref_addressSent_38 : decode (jm_cod M_Ref_addressSent) 38 = .ok (.iconst 1, 1) := dt_Ref_addressSent_c1 2
theorem d_Ref_addressSent_39 : decode (jm_cod M_Ref_addressSent) 39 = .ok (.goto 4, 3) := dt_Ref_addressSent_c1 3
theorem d_Ref_addressSent_42 : decode (jm_cod M_Ref_addressSent) 42 = .ok (.iconst 0, 1) := dt_Ref_addressSent_c1 4
theorem d_Ref_addressSent_43 : decode (jm_cod M_Ref_addressSent) 43 = .ok (.invokevirtual 344, 3) := dt_Ref_addressSent_c1 5
theorem d_Ref_addressSent_46 : decode (jm_cod M_Ref_addressSent) 46 = .ok (.aload_n 0, 1) := dt_Ref_addressSent_c1 6
theorem d_Ref_addressSent_47 : decode (jm_cod M_Ref_addressSent) 47 = .ok (.getfield 348, 3) := dt_Ref_addressSent_c1 7
theorem d_Ref_addressSent_50 : decode (jm_cod M_Ref_addressSent) 50 = .ok (.iastore, 1) := dt_Ref_addressSent_c1 8
theorem d_Ref_addressSent_51 : decode (jm_cod M_Ref_addressSent) 51 = .ok (.return_, 1) := dt_Ref_addressSent_c1 9
def tab_Ref_put_c0 : List (Nat × Instr × Nat) := [(0, .iconst 4, 1), (1, .iload_n 1, 1), (2, .imul, 1), (3, .aload_n 0, 1), (4, .getfield 115, 3), (7, .iload_n 1, 1), (8, .iaload, 1), (9, .iadd, 1), (10, .istore 6, 2), (12, .aload_n 0, 1), (13, .getfield 106, 3), (16, .iload 6, 2), (18, .lload_n 2, 1), (19, .lastore, 1), (20, .aload_n 0, 1), (21, .getfield 109, 3), (24, .iload 6, 2), (26, .iload 4, 2), (28, .iastore, 1), (29, .aload_n 0, 1), (30, .getfield 112, 3), (33, .iload 6, 2), (35, .iload 5, 2), (37, .iastore, 1)]
theorem dt_Ref_put_c0 (i : Nat) : decode (jm_cod M_Ref_put) (tab_Ref_put_c0.getD i (0, .iconst 4, 1)).1 = .ok ((tab_Ref_put_c0.getD i (0, .iconst 4, 1)).2.1, (tab_Ref_put_c0.getD i (0, .iconst 4, 1)).2.2) := j_tab (by decide +kernel) i
theorem d_Ref_put_0 : decode (jm_cod M_Ref_put) 0 = .ok (.iconst 4, 1) := dt_Ref_put_c0 0
theorem d_Ref_put_1 : decode (jm_cod M_Ref_put) 1 = .ok (.iload_n 1, 1) := dt_Ref_put_c0 1
theorem d_Ref_put_2 : decode (jm_cod M_Ref_put) 2 = .ok (.imul, 1) := dt_Ref_put_c0 2
theorem d_Ref_put_3 : decode (jm_cod M_Ref_put) 3 = .ok (.aload_n 0, 1) := dt_Ref_put_c0 3
theorem d_Ref_put_4 : decode (jm_cod M_Ref_put) 4 = .ok (.getfield 115, 3) := dt_Ref_put_c0 4
theorem d_Ref_put_7 : decode (jm_cod M_Ref_put) 7 = .ok (.iload_n 1, 1) := dt_Ref_put_c0 5
theorem d_Ref_put_8 : decode (jm_cod M_Ref_put) 8 = .ok (.iaload, 1) := dt_Ref_put_c0 6
theorem d_Ref_put_9 : decode (jm_cod M_Ref_put) 9 = .ok (.iadd, 1) := dt_Ref_put_c0 7
theorem d_Ref_put_10 : decode (jm_cod M_Ref_put) 10 = .ok (.istore 6, 2) := dt_Ref_put_c0 8
theorem d_Ref_put_12 : decode (jm_cod M_Ref_put) 12 = .ok (.aload_n 0, 1) := dt_Ref_put_c0 9
theorem d_Ref_put_13 : decode (jm_cod M_Ref_put) 13 = .ok (.getfield 106, 3) := dt_Ref_put_c0 10
theorem d_Ref_put_16 : decode (jm_cod M_Ref_put) 16 = .ok (.iload 6, 2) := dt_Ref_put_c0 11
theorem d_Ref_put_18 : decode (jm_cod M_Ref_put) 18 = .ok (.lload_n 2, 1) := dt_Ref_put_c0 12
theorem d_Ref_put_19 : decode (jm_cod M_Ref_put) 19 = .ok (.lastore, 1) := dt_Ref_put_c0 13
theorem d_Ref_put_20 : decode (jm_cod M_Ref_put) 20 = .ok (.aload_n 0, 1) := dt_Ref_put_c0 14
theorem d_Ref_put_21 : decode (jm_cod M_Ref_put) 21 = .ok (.getfield 109, 3) := dt_Ref_put_c0 15
theorem d_Ref_put_24 : decode (jm_cod M_Ref_put) 24 = .ok (.iload 6, 2) := dt_Ref_put_c0 16
theorem d_Ref_put_26 : decode (jm_cod M_Ref_put) 26 = .ok (.iload 4, 2) := dt_Ref_put_c0 17
theorem d_Ref_put_28 : decode (jm_cod M_Ref_put) 28 = .ok (.iastore, 1) := dt_Ref_put_c0 18
theorem d_Ref_put_29 : decode (jm_cod M_Ref_put) 29 = .ok (.aload_n 0, 1) := dt_Ref_put_c0 19
theorem d_Ref_put_30 : decode (jm_cod M_Ref_put) 30 = .ok (.getfield 112, 3) := dt_Ref_put_c0 20
theorem d_Ref_put_33 : decode (jm_cod M_Ref_put) 33 = .ok (.iload 6, 2) := dt_Ref_put_c0 21
theorem d_Ref_put_35 : decode (jm_cod M_Ref_put) 35 = .ok (.iload 5, 2) := dt_Ref_put_c0 22
theorem d_Ref_put_37 : decode (jm_cod M_Ref_put) 37 = .ok (.iastore, 1) := dt_Ref_put_c0 23
def tab_Ref_put_c1 : List (Nat × Instr × Nat) := [(38, .aload_n 0, 1), (39, .getfield 115, 3), (42, .iload_n 1, 1), (43, .dup2, 1), (44, .iaload, 1), (45, .iconst 1, 1), (46, .iadd, 1), (47, .iastore, 1), (48, .return_, 1)]
theorem dt_Ref_put_c1 (i : Nat) : decode (jm_cod M_Ref_put) (tab_Ref_put_c1.getD i (38, .aload_n 0, 1)).1 = .ok ((tab_Ref_put_c1.getD i (38, .aload_n 0, 1)).2.1, (tab_Ref_put_c1.getD i (38, .aload_n 0, 1)).2.2) := j_tab (by decide +kernel) i
theorem d_Ref_put_38 : decode (jm_cod M_Ref_put) 38 = .ok (.aload_n 0, 1) := dt_Ref_put_c1 0
theorem d_Ref_put_39 : decode (jm_cod M_Ref_put) 39 = .ok (.getfield 115, 3) := dt_Ref_put_c1 1
theorem d_Ref_put_42 : decode (jm_cod M_Ref_put) 42 = .ok (.iload_n 1, 1) := dt_Ref_put_c1 2
theorem d_Ref_put_43 : decode (jm_cod M_Ref_put) 43 = .ok (.dup2, 1) := dt_Ref_put_c1 3
theorem d_Ref_put_44 : decode (jm_cod M_Ref_put) 44 = .ok (.iaload, 1) := dt_Ref_put_c1 4
theorem d_Ref_put_45 : decode (jm_cod M_Ref_put) 45 = .ok (.iconst 1, 1) := dt_Ref_put_c1 5
theorem d_Ref_put_46 : decode (jm_cod M_Ref_put) 46 = .ok (.iadd, 1) := dt_Ref_put_c1 6
theorem d_Ref_put_47 : decode (jm_cod M_Ref_put) 47 = .ok (.iastore, 1) := dt_Ref_put_c1 7
theorem d_Ref_put_48 : decode (jm_cod M_Ref_put) 48 = .ok (.return_, 1) := dt_Ref_put_c1 8
def tab_Ref_dataSent_c0 : List (Nat × Instr × Nat) := [(0, .iconst 5, 1), (1, .iload_n 1, 1), (2, .imul, 1), (3, .iconst 1, 1), (4, .iadd, 1), (5, .istore_n 2, 1), (6, .aload_n 0, 1), (7, .aload_n 0, 1), (8, .iconst 0, 1), (9, .iload_n 1, 1), (10, .iconst 1, 1), (11, .invokevirtual 388, 3), (14, .aload_n 0, 1), (15, .getfield 94, 3), (18, .iload_n 2, 1), (19, .laload, 1), (20, .aload_n 0, 1), (21, .getfield 97, 3), (24, .iload_n 2, 1), (25, .iaload, 1), (26, .aload_n 0, 1), (27, .getfield 348, 3), (30, .invokevirtual 469, 3), (33, .aload_n 0, 1)]
theorem dt_Ref_dataSent_c0 (i : Nat) : decode (jm_cod M_Ref_dataSent) (tab_Ref_dataSent_c0.getD i (0, .iconst 5, 1)).1 = .ok ((tab_Ref_dataSent_c0.getD i (0, .iconst 5, 1)).2.1, (tab_Ref_dataSent_c0.getD i (0, .iconst 5, 1)).2.2) := j_tab (by decide +kernel) i
theorem d_Ref_dataSent_0 : decode (jm_cod M_Ref_dataSent) 0 = .ok (.iconst 5, 1) := dt_Ref_dataSent_c0 0
theorem d_Ref_dataSent_1 : decode (jm_cod M_Ref_dataSent) 1 = .ok (.iload_n 1, 1) := dt_Ref_dataSent_c0 1
theorem d_Ref_dataSent_2 : decode (jm_cod M_Ref_dataSent) 2 = .ok (.imul, 1) := dt_Ref_dataSent_c0 2
theorem d_Ref_dataSent_3 : decode (jm_cod M_Ref_dataSent) 3 = .ok (.iconst 1, 1) := dt_Ref_dataSent_c0 3
theorem d_Ref_dataSent_4 : decode (jm_cod M_Ref_dataSent) 4 = .ok (.iadd, 1) := dt_Ref_dataSent_c0 4
theorem d_Ref_dataSent_5 : decode (jm_cod M_Ref_dataSent) 5 = .ok (.istore_n 2, 1) := dt_Ref_dataSent_c0 5
theorem d_Ref_dataSent_6 : decode (jm_cod M_Ref_dataSent) 6 = .ok (.aload_n 0, 1) := dt_Ref_dataSent_c0 6
theorem d_Ref_dataSent_7 : decode (jm_cod M_Ref_dataSent) 7 = .ok (.aload_n 0, 1) := dt_Ref_dataSent_c0 7
theorem d_Ref_dataSent_8 : decode (jm_cod M_Ref_dataSent) 8 = .ok (.iconst 0, 1) := dt_Ref_dataSent_c0 8
theorem d_Ref_dataSent_9 : decode (jm_cod M_Ref_dataSent) 9 = .ok (.iload_n 1, 1) := dt_Ref_dataSent_c0 9
theorem d_Ref_dataSent_10 : decode (jm_cod M_Ref_dataSent) 10 = .ok (.iconst 1, 1) := dt_Ref_dataSent_c0 10
theorem d_Ref_dataSent_11 : decode (jm_cod M_Ref_dataSent) 11 = .ok (.invokevirtual 388, 3) := dt_Ref_dataSent_c0 11
theorem d_Ref_dataSent_14 : decode (jm_cod M_Ref_dataSent) 14 = .ok (.aload_n 0, 1) := dt_Ref_dataSent_c0 12
theorem d_Ref_dataSent_15 : decode (jm_cod M_Ref_dataSent) 15 = .ok (.getfield 94, 3) := dt_Ref_dataSent_c0 13
theorem d_Ref_dataSent_18 : decode (jm_cod M_Ref_dataSent) 18 = .ok (.iload_n 2, 1) := dt_Ref_dataSent_c0 14
theorem d_Ref_dataSent_19 : decode (jm_cod M_Ref_dataSent) 19 = .ok (.laload, 1) := dt_Ref_dataSent_c0 15
theorem d_Ref_dataSent_20 : decode (jm_cod M_Ref_dataSent) 20 = .ok (.aload_n 0, 1) := dt_Ref_dataSent_c0 16
theorem d_Ref_dataSent_21 : decode (jm_cod M_Ref_dataSent) 21 = .ok (.getfield 97, 3) := dt_Ref_dataSent_c0 17
theorem d_Ref_dataSent_24 : decode (jm_cod M_Ref_dataSent) 24 = .ok (.iload_n 2, 1) := dt_Ref_dataSent_c0 18
theorem d_Ref_dataSent_25 : decode (jm_cod M_Ref_dataSent) 25 = .ok (.iaload, 1) := dt_Ref_dataSent_c0 19
theorem d_Ref_dataSent_26 : decode (jm_cod M_Ref_dataSent) 26 = .ok (.aload_n 0, 1) := dt_Ref_dataSent_c0 20
theorem d_Ref_dataSent_27 : decode (jm_cod M_Ref_dataSent) 27 = .ok (.getfield 348, 3) := dt_Ref_dataSent_c0 21
theorem d_Ref_dataSent_30 : decode (jm_cod M_Ref_dataSent) 30 = .ok (.invokevirtual 469, 3) := dt_Ref_dataSent_c0 22
theorem d_Ref_dataSent_33 : decode (jm_cod M_Ref_dataSent) 33 = .ok (.aload_n 0, 1) := dt_Ref_dataSent_c0 23
def tab_Ref_dataSent_c1 : List (Nat × Instr × Nat) := [(34, .iload_n 1, 1), (35, .invokevirtual 363, 3), (38, .istore_n 3, 1), (39, .aload_n 0, 1), (40, .getfield 85, 3), (43, .bipush 16, 2), (45, .iload_n 3, 1), (46, .imul, 1), (47, .aload_n 0, 1), (48, .getfield 79, 3), (51, .iload_n 3, 1), (52, .iaload, 1), (53, .iadd, 1), (54, .aload_n 0, 1), (55, .getfield 94, 3), (58, .iload_n 2, 1), (59, .laload, 1), (60, .lastore, 1), (61, .aload_n 0, 1), (62, .getfield 66, 3), (65, .iload_n 3, 1), (66, .aload_n 0, 1), (67, .getfield 66, 3), (70, .iload_n 3, 1)]
theorem dt_Ref_dataSent_c1 (i : Nat) : decode (jm_cod M_Ref_dataSent) (tab_Ref_dataSent_c1.getD i (34, .iload_n 1, 1)).1 = .ok ((tab_Ref_dataSent_c1.getD i (34, .iload_n 1, 1)).2.1, (tab_Ref_dataSent_c1.getD i (34, .iload_n 1, 1)).2.2) := j_tab (by decide +kernel) i
theorem d_Ref_dataSent_34 : decode (jm_cod M_Ref_dataSent) 34 = .ok (.iload_n 1, 1) := dt_Ref_dataSent_c1 0
theorem d_Ref_dataSent_35 : decode (jm_cod M_Ref_dataSent) 35 = .ok (.invokevirtual 363, 3) := dt_Ref_dataSent_c1 1
theorem d_Ref_dataSent_38 : decode (jm_cod M_Ref_dataSent) 38 = .ok (.istore_n 3, 1) := dt_Ref_dataSent_c1 2
theorem d_Ref_dataSent_39 : decode (jm_cod M_Ref_dataSent) 39 = .ok (.aload_n 0, 1) := dt_Ref_dataSent_c1 3
theorem d_Ref_dataSent_40 : decode (jm_cod M_Ref_dataSent) 40 = .ok (.getfield 85, 3) := dt_Ref_dataSent_c1 4
theorem d_Ref_dataSent_43 : decode (jm_cod M_Ref_dataSent) 43 = .ok (.bipush 16, 2) := dt_Ref_dataSent_c1 5
theorem d_Ref_dataSent_45 : decode (jm_cod M_Ref_dataSent) 45 = .ok (.iload_n 3, 1) := dt_Ref_dataSent_c1 6
theorem d_Ref_dataSent_46 : decode (jm_cod M_Ref_dataSent) 46 = .ok (.imul, 1) := dt_Ref_dataSent_c1 7
theorem d_Ref_dataSent_47 : decode (jm_cod M_Ref_dataSent) 47 = .ok (.aload_n 0, 1) := dt_Ref_dataSent_c1 8
theorem d_Ref_dataSent_48 : decode (jm_cod M_Ref_dataSent) 48 = .ok (.getfield 79, 3) := dt_Ref_dataSent_c1 9
theorem d_Ref_dataSent_51 : decode (jm_cod M_Ref_dataSent) 51 = .ok (.iload_n 3, 1) := dt_Ref_dataSent_c1 10
theorem d_Ref_dataSent_52 : decode (jm_cod M_Ref_dataSent) 52 = .ok (.iaload, 1) := dt_Ref_dataSent_c1 11
theorem d_Ref_dataSent_53 : decode (jm_cod M_Ref_dataSent) 53 = .ok (.iadd, 1) := dt_Ref_dataSent_c1 12
theorem d_Ref_dataSent_54 : decode (jm_cod M_Ref_dataSent) 54 = .ok (.aload_n 0, 1) := dt_Ref_dataSent_c1 13
theorem d_Ref_dataSent_55 : decode (jm_cod M_Ref_dataSent) 55 = .ok (.getfield 94, 3) := dt_Ref_dataSent_c1 14
theorem d_Ref_dataSent_58 : decode (jm_cod M_Ref_dataSent) 58 = .ok (.iload_n 2, 1) := dt_Ref_dataSent_c1 15
theorem d_Ref_dataSent_59 : decode (jm_cod M_Ref_dataSent) 59 = .ok (.laload, 1) := dt_Ref_dataSent_c1 16
theorem d_Ref_dataSent_60 : decode (jm_cod M_Ref_dataSent) 60 = .ok (.lastore, 1) := dt_Ref_dataSent_c1 17
theorem d_Ref_dataSent_61 : decode (jm_cod M_Ref_dataSent) 61 = .ok (.aload_n 0, 1) := dt_Ref_dataSent_c1 18
theorem d_Ref_dataSent_62 : decode (jm_cod M_Ref_dataSent) 62 = .ok (.getfield 66, 3) := dt_Ref_dataSent_c1 19
theorem d_Ref_dataSent_65 : decode (jm_cod M_Ref_dataSent) 65 = .ok (.iload_n 3, 1) := dt_Ref_dataSent_c1 20
theorem d_Ref_dataSent_66 : decode (jm_cod M_Ref_dataSent) 66 = .ok (.aload_n 0, 1) := dt_Ref_dataSent_c1 21
theorem d_Ref_dataSent_67 : decode (jm_cod M_Ref_dataSent) 67 = .ok (.getfield 66, 3) := dt_Ref_dataSent_c1 22
theorem d_Ref_dataSent_70 : decode (jm_cod M_Ref_dataSent) 70 = .ok (.iload_n 3, 1) := dt_Ref_dataSent_c1 23
def tab_Ref_dataSent_c2 : List (Nat × Instr × Nat) := [(71, .laload, 1), (72, .ldc2_w 373, 3), (75, .lmul, 1), (76, .ldc2_w 375, 3), (79, .ladd, 1), (80, .lastore, 1), (81, .aload_n 0, 1), (82, .getfield 79, 3), (85, .iload_n 3, 1), (86, .dup2, 1), (87, .iaload, 1), (88, .iconst 1, 1), (89, .iadd, 1), (90, .iastore, 1), (91, .return_, 1)]
theorem dt_Ref_dataSent_c2 (i : Nat) : decode (jm_cod M_Ref_dataSent) (tab_Ref_dataSent_c2.getD i (71, .laload, 1)).1 = .ok ((tab_Ref_dataSent_c2.getD i (71, .laload, 1)).2.1, (tab_Ref_dataSent_c2.getD i (71, .laload, 1)).2.2) := j_tab (by decide +kernel) i
theorem d_Ref_dataSent_71 : decode (jm_cod M_Ref_dataSent) 71 = .ok (.laload, 1) := dt_Ref_dataSent_c2 0
theorem d_Ref_dataSent_72 : decode (jm_cod M_Ref_dataSent) 72 = .ok (.ldc2_w 373, 3) := dt_Ref_dataSent_c2 1
theorem d_Ref_dataSent_75 : decode (jm_cod M_Ref_dataSent) 75 = .ok (.lmul, 1) := dt_Ref_dataSent_c2 2
theorem d_Ref_dataSent_76 : decode (jm_cod M_Ref_dataSent) 76 = .ok (.ldc2_w 375, 3) := dt_Ref_dataSent_c2 3
theorem d_Ref_dataSent_79 : decode (jm_cod M_Ref_dataSent) 79 = .ok (.ladd, 1) := dt_Ref_dataSent_c2 4
theorem d_Ref_dataSent_80 : decode (jm_cod M_Ref_dataSent) 80 = .ok (.lastore, 1) := dt_Ref_dataSent_c2 5
theorem d_Ref_dataSent_81 : decode (jm_cod M_Ref_dataSent) 81 = .ok (.aload_n 0, 1) := dt_Ref_dataSent_c2 6
theorem d_Ref_dataSent_82 : decode (jm_cod M_Ref_dataSent) 82 = .ok (.getfield 79, 3) := dt_Ref_dataSent_c2 7
theorem d_Ref_dataSent_85 : decode (jm_cod M_Ref_dataSent) 85 = .ok (.iload_n 3, 1) := dt_Ref_dataSent_c2 8
theorem d_Ref_dataSent_86 : decode (jm_cod M_Ref_dataSent) 86 = .ok (.dup2, 1) := dt_Ref_dataSent_c2 9
theorem d_Ref_dataSent_87 : decode (jm_cod M_Ref_dataSent) 87 = .ok (.iaload, 1) := dt_Ref_dataSent_c2 10
theorem d_Ref_dataSent_88 : decode (jm_cod M_Ref_dataSent) 88 = .ok (.iconst 1, 1) := dt_Ref_dataSent_c2 11
theorem d_Ref_dataSent_89 : decode (jm_cod M_Ref_dataSent) 89 = .ok (.iadd, 1) := dt_Ref_dataSent_c2 12
theorem d_Ref_dataSent_90 : decode (jm_cod M_Ref_dataSent) 90 = .ok (.iastore, 1) := dt_Ref_dataSent_c2 13
theorem d_Ref_dataSent_91 : decode (jm_cod M_Ref_dataSent) 91 = .ok (.return_, 1) := dt_Ref_dataSent_c2 14
def tab_Ref_answerCame_c0 : List (Nat × Instr × Nat) := [(0, .iconst 5, 1), (1, .iload_n 1, 1), (2, .imul, 1), (3, .iload_n 2, 1), (4, .iadd, 1), (5, .istore_n 3, 1), (6, .aload_n 0, 1), (7, .aload_n 0, 1), (8, .iconst 0, 1), (9, .iload_n 1, 1), (10, .iload_n 2, 1), (11, .invokevirtual 388, 3), (14, .invokevirtual 473, 3), (17, .aload_n 0, 1), (18, .iload_n 1, 1), (19, .aload_n 0, 1), (20, .getfield 97, 3), (23, .iload_n 3, 1), (24, .iaload, 1), (25, .bipush 63, 2), (27, .iand, 1), (28, .iload_n 2, 1), (29, .iconst 2, 1), (30, .if_icmp .ne 7, 3)]
theorem dt_Ref_answerCame_c0 (i : Nat) : decode (jm_cod M_Ref_answerCame) (tab_Ref_answerCame_c0.getD i (0, .iconst 5, 1)).1 = .ok ((tab_Ref_answerCame_c0.getD i (0, .iconst 5, 1)).2.1, (tab_Ref_answerCame_c0.getD i (0, .iconst 5, 1)).2.2) := j_tab (by decide +kernel) i
theorem d_Ref_answerCame_0 : decode (jm_cod M_Ref_answerCame) 0 = .ok (.iconst 5, 1) := dt_Ref_answerCame_c0 0
theorem d_Ref_answerCame_1 : decode (jm_cod M_Ref_answerCame) 1 = .ok (.iload_n 1, 1) := dt_Ref_answerCame_c0 1
theorem d_Ref_answerCame_2 : decode (jm_cod M_Ref_answerCame) 2 = .ok (.imul, 1) := dt_Ref_answerCame_c0 2
theorem d_Ref_answerCame_3 : decode (jm_cod M_Ref_answerCame) 3 = .ok (.iload_n 2, 1) := dt_Ref_answerCame_c0 3
theorem d_Ref_answerCame_4 : decode (jm_cod M_Ref_answerCame) 4 = .ok (.iadd, 1) := dt_Ref_answerCame_c0 4
theorem d_Ref_answerCame_5 : decode (jm_cod M_Ref_answerCame) 5 = .ok (.istore_n 3, 1) := dt_Ref_answerCame_c0 5
theorem d_Ref_answerCame_6 : decode (jm_cod M_Ref_answerCame) 6 = .ok (.aload_n 0, 1) := dt_Ref_answerCame_c0 6
theorem d_Ref_answerCame_7 : decode (jm_cod M_Ref_answerCame) 7 = .ok (.aload_n 0, 1) := dt_Ref_answerCame_c0 7
theorem d_Ref_answerCame_8 : decode (jm_cod M_Ref_answerCame) 8 = .ok (.iconst 0, 1) := dt_Ref_answerCame_c0 8
theorem d_Ref_answerCame_9 : decode (jm_cod M_Ref_answerCame) 9 = .ok (.iload_n 1, 1) := dt_Ref_answerCame_c0 9
theorem d_Ref_answerCame_10 : decode (jm_cod M_Ref_answerCame) 10 = .ok (.iload_n 2, 1) := dt_Ref_answerCame_c0 10
theorem d_Ref_answerCame_11 : decode (jm_cod M_Ref_answerCame) 11 = .ok (.invokevirtual 388, 3) := dt_Ref_answerCame_c0 11
theorem d_Ref_answerCame_14 : decode (jm_cod M_Ref_answerCame) 14 = .ok (.invokevirtual 473, 3) := dt_Ref_answerCame_c0 12
theorem d_Ref_answerCame_17 : decode (jm_cod M_Ref_answerCame) 17 = .ok (.aload_n 0, 1) := dt_Ref_answerCame_c0 13
theorem d_Ref_answerCame_18 : decode (jm_cod M_Ref_answerCame) 18 = .ok (.iload_n 1, 1) := dt_Ref_answerCame_c0 14
theorem d_Ref_answerCame_19 : decode (jm_cod M_Ref_answerCame) 19 = .ok (.aload_n 0, 1) := dt_Ref_answerCame_c0 15
theorem d_Ref_answerCame_20 : decode (jm_cod M_Ref_answerCame) 20 = .ok (.getfield 97, 3) := dt_Ref_answerCame_c0 16
theorem d_Ref_answerCame_23 : decode (jm_cod M_Ref_answerCame) 23 = .ok (.iload_n 3, 1) := dt_Ref_answerCame_c0 17
theorem d_Ref_answerCame_24 : decode (jm_cod M_Ref_answerCame) 24 = .ok (.iaload, 1) := dt_Ref_answerCame_c0 18
theorem d_Ref_answerCame_25 : decode (jm_cod M_Ref_answerCame) 25 = .ok (.bipush 63, 2) := dt_Ref_answerCame_c0 19
theorem d_Ref_answerCame_27 : decode (jm_cod M_Ref_answerCame) 27 = .ok (.iand, 1) := dt_Ref_answerCame_c0 20
theorem d_Ref_answerCame_28 : decode (jm_cod M_Ref_answerCame) 28 = .ok (.iload_n 2, 1) := dt_Ref_answerCame_c0 21
theorem d_Ref_answerCame_29 : decode (jm_cod M_Ref_answerCame) 29 = .ok (.iconst 2, 1) := dt_Ref_answerCame_c0 22
theorem d_Ref_answerCame_30 : decode (jm_cod M_Ref_answerCame) 30 = .ok (.if_icmp .ne 7, 3) := dt_Ref_answerCame_c0 23
def tab_Ref_answerCame_c1 : List (Nat × Instr × Nat) := [(33, .iconst 1, 1), (34, .goto 4, 3), (37, .iconst 0, 1), (38, .invokevirtual 476, 3), (41, .istore 4, 2), (43, .iload 4, 2), (45, .iconst (-1), 1), (46, .if_icmp .ne 4, 3), (49, .return_, 1), (50, .aload_n 0, 1), (51, .getfield 97, 3), (54, .iload_n 3, 1), (55, .iaload, 1), (56, .bipush 6, 2), (58, .ishr, 1), (59, .iconst 3, 1), (60, .iand, 1), (61, .istore 5, 2), (63, .aload_n 0, 1), (64, .getfield 82, 3), (67, .iload 4, 2), (69, .iload 5, 2), (71, .aload_n 0, 1), (72, .getfield 82, 3)]
theorem dt_Ref_answerCame_c1 (i : Nat) : decode (jm_cod M_Ref_answerCame) (tab_Ref_answerCame_c1.getD i (33, .iconst 1, 1)).1 = .ok ((tab_Ref_answerCame_c1.getD i (33, .iconst 1, 1)).2.1, (tab_Ref_answerCame_c1.getD i (33, .iconst 1, 1)).2.2) := j_tab (by decide +kernel) i
theorem d_Ref_answerCame_33 : decode (jm_cod M_Ref_answerCame) 33 = .ok (.iconst 1, 1) := dt_Ref_answerCame_c1 0
theorem d_Ref_answerCame_34 : decode (jm_cod M_Ref_answerCame) 34 = .ok (.goto 4, 3) := dt_Ref_answerCame_c1 1
theorem d_Ref_answerCame_37 : decode (jm_cod M_Ref_answerCame) 37 = .ok (.iconst 0, 1) := dt_Ref_answerCame_c1 2
theorem d_Ref_answerCame_38 : decode (jm_cod M_Ref_answerCame) 38 = .ok (.invokevirtual 476, 3) := dt_Ref_answerCame_c1 3
theorem d_Ref_answerCame_41 : decode (jm_cod M_Ref_answerCame) 41 = .ok (.istore 4, 2) := dt_Ref_answerCame_c1 4
theorem d_Ref_answerCame_43 : decode (jm_cod M_Ref_answerCame) 43 = .ok (.iload 4, 2) := dt_Ref_answerCame_c1 5
theorem d_Ref_answerCame_45 : decode (jm_cod M_Ref_answerCame) 45 = .ok (.iconst (-1), 1) := dt_Ref_answerCame_c1 6
theorem d_Ref_answerCame_46 : decode (jm_cod M_Ref_answerCame) 46 = .ok (.if_icmp .ne 4, 3) := dt_Ref_answerCame_c1 7
theorem d_Ref_answerCame_49 : decode (jm_cod M_Ref_answerCame) 49 = .ok (.return_, 1) := dt_Ref_answerCame_c1 8
theorem d_Ref_answerCame_50 : decode (jm_cod M_Ref_answerCame) 50 = .ok (.aload_n 0, 1) := dt_Ref_answerCame_c1 9
theorem d_Ref_answerCame_51 : decode (jm_cod M_Ref_answerCame) 51 = .ok (.getfield 97, 3) := dt_Ref_answerCame_c1 10
theorem d_Ref_answerCame_54 : decode (jm_cod M_Ref_answerCame) 54 = .ok (.iload_n 3, 1) := dt_Ref_answerCame_c1 11
theorem d_Ref_answerCame_55 : decode (jm_cod M_Ref_answerCame) 55 = .ok (.iaload, 1) := dt_Ref_answerCame_c1 12
theorem d_Ref_answerCame_56 : decode (jm_cod M_Ref_answerCame) 56 = .ok (.bipush 6, 2) := dt_Ref_answerCame_c1 13
theorem d_Ref_answerCame_58 : decode (jm_cod M_Ref_answerCame) 58 = .ok (.ishr, 1) := dt_Ref_answerCame_c1 14
theorem d_Ref_answerCame_59 : decode (jm_cod M_Ref_answerCame) 59 = .ok (.iconst 3, 1) := dt_Ref_answerCame_c1 15
theorem d_Ref_answerCame_60 : decode (jm_cod M_Ref_answerCame) 60 = .ok (.iand, 1) := dt_Ref_answerCame_c1 16
theorem d_Ref_answerCame_61 : decode (jm_cod M_Ref_answerCame) 61 = .ok (.istore 5, 2) := dt_Ref_answerCame_c1 17
theorem d_Ref_answerCame_63 : decode (jm_cod M_Ref_answerCame) 63 = .ok (.aload_n 0, 1) := dt_Ref_answerCame_c1 18
theorem d_Ref_answerCame_64 : decode (jm_cod M_Ref_answerCame) 64 = .ok (.getfield 82, 3) := dt_Ref_answerCame_c1 19
theorem d_Ref_answerCame_67 : decode (jm_cod M_Ref_answerCame) 67 = .ok (.iload 4, 2) := dt_Ref_answerCame_c1 20
theorem d_Ref_answerCame_69 : decode (jm_cod M_Ref_answerCame) 69 = .ok (.iload 5, 2) := dt_Ref_answerCame_c1 21
theorem d_Ref_answerCame_71 : decode (jm_cod M_Ref_answerCame) 71 = .ok (.aload_n 0, 1) := dt_Ref_answerCame_c1 22
theorem d_Ref_answerCame_72 : decode (jm_cod M_Ref_answerCame) 72 = .ok (.getfield 82, 3) := dt_Ref_answerCame_c1 23
def tab_Ref_answerCame_c2 : List (Nat × Instr × Nat) := [(75, .iload 4, 2), (77, .iaload, 1), (78, .if_icmp .le 8, 3), (81, .iload 5, 2), (83, .goto 10, 3), (86, .aload_n 0, 1), (87, .getfield 82, 3), (90, .iload 4, 2), (92, .iaload, 1), (93, .iastore, 1), (94, .iload_n 2, 1), (95, .iconst 2, 1), (96, .if_icmp .ne 15, 3), (99, .aload_n 0, 1), (100, .getfield 76, 3), (103, .iload 4, 2), (105, .aload_n 0, 1), (106, .getfield 348, 3), (109, .iastore, 1), (110, .return_, 1), (111, .aload_n 0, 1), (112, .getfield 85, 3), (115, .bipush 16, 2), (117, .iload 4, 2)]
theorem dt_Ref_answerCame_c2 (i : Nat) : decode (jm_cod M_Ref_answerCame) (tab_Ref_answerCame_c2.getD i (75, .iload 4, 2)).1 = .ok ((tab_Ref_answerCame_c2.getD i (75, .iload 4, 2)).2.1, (tab_Ref_answerCame_c2.getD i (75, .iload 4, 2)).2.2) := j_tab (by decide +kernel) i
theorem d_Ref_answerCame_75 : decode (jm_cod M_Ref_answerCame) 75 = .ok (.iload 4, 2) := dt_Ref_answerCame_c2 0
theorem d_Ref_answerCame_77 : decode (jm_cod M_Ref_answerCame) 77 = .ok (.iaload, 1) := dt_Ref_answerCame_c2 1
theorem d_Ref_answerCame_78 : decode (jm_cod M_Ref_answerCame) 78 = .ok (.if_icmp .le 8, 3) := dt_Ref_answerCame_c2 2
theorem d_Ref_answerCame_81 : decode (jm_cod M_Ref_answerCame) 81 = .ok (.iload 5, 2) := dt_Ref_answerCame_c2 3
theorem d_Ref_answerCame_83 : decode (jm_cod M_Ref_answerCame) 83 = .ok (.goto 10, 3) := dt_Ref_answerCame_c2 4
theorem d_Ref_answerCame_86 : decode (jm_cod M_Ref_answerCame) 86 = .ok (.aload_n 0, 1) := dt_Ref_answerCame_c2 5
theorem d_Ref_answerCame_87 : decode (jm_cod M_Ref_answerCame) 87 = .ok (.getfield 82, 3) := dt_Ref_answerCame_c2 6
theorem d_Ref_answerCame_90 : decode (jm_cod M_Ref_answerCame) 90 = .ok (.iload 4, 2) := dt_Ref_answerCame_c2 7
theorem d_Ref_answerCame_92 : decode (jm_cod M_Ref_answerCame) 92 = .ok (.iaload, 1) := dt_Ref_answerCame_c2 8
theorem d_Ref_answerCame_93 : decode (jm_cod M_Ref_answerCame) 93 = .ok (.iastore, 1) := dt_Ref_answerCame_c2 9
theorem d_Ref_answerCame_94 : decode (jm_cod M_Ref_answerCame) 94 = .ok (.iload_n 2, 1) := dt_Ref_answerCame_c2 10
theorem d_Ref_answerCame_95 : decode (jm_cod M_Ref_answerCame) 95 = .ok (.iconst 2, 1) := dt_Ref_answerCame_c2 11
theorem d_Ref_answerCame_96 : decode (jm_cod M_Ref_answerCame) 96 = .ok (.if_icmp .ne 15, 3) := dt_Ref_answerCame_c2 12
theorem d_Ref_answerCame_99 : decode (jm_cod M_Ref_answerCame) 99 = .ok (.aload_n 0, 1) := dt_Ref_answerCame_c2 13
theorem d_Ref_answerCame_100 : decode (jm_cod M_Ref_answerCame) 100 = .ok (.getfield 76, 3) := dt_Ref_answerCame_c2 14
theorem d_Ref_answerCame_103 : decode (jm_cod M_Ref_answerCame) 103 = .ok (.iload 4, 2) := dt_Ref_answerCame_c2 15
theorem d_Ref_answerCame_105 : decode (jm_cod M_Ref_answerCame) 105 = .ok (.aload_n 0, 1) := dt_Ref_answerCame_c2 16
theorem d_Ref_answerCame_106 : decode (jm_cod M_Ref_answerCame) 106 = .ok (.getfield 348, 3) := dt_Ref_answerCame_c2 17
theorem d_Ref_answerCame_109 : decode (jm_cod M_Ref_answerCame) 109 = .ok (.iastore, 1) := dt_Ref_answerCame_c2 18
theorem d_Ref_answerCame_110 : decode (jm_cod M_Ref_answerCame) 110 = .ok (.return_, 1) := dt_Ref_answerCame_c2 19
theorem d_Ref_answerCame_111 : decode (jm_cod M_Ref_answerCame) 111 = .ok (.aload_n 0, 1) := dt_Ref_answerCame_c2 20
theorem d_Ref_answerCame_112 : decode (jm_cod M_Ref_answerCame) 112 = .ok (.getfield 85, 3) := dt_Ref_answerCame_c2 21
theorem d_Ref_answerCame_115 : decode (jm_cod M_Ref_answerCame) 115 = .ok (.bipush 16, 2) := dt_Ref_answerCame_c2 22
theorem d_Ref_answerCame_117 : decode (jm_cod M_Ref_answerCame) 117 = .ok (.iload 4, 2) := dt_Ref_answerCame_c2 23
def tab_Ref_answerCame_c3 : List (Nat × Instr × Nat) := [(119, .imul, 1), (120, .aload_n 0, 1), (121, .getfield 79, 3), (124, .iload 4, 2), (126, .iaload, 1), (127, .iadd, 1), (128, .aload_n 0, 1), (129, .getfield 94, 3), (132, .iload_n 3, 1), (133, .laload, 1), (134, .lastore, 1), (135, .aload_n 0, 1), (136, .getfield 79, 3), (139, .iload 4, 2), (141, .dup2, 1), (142, .iaload, 1), (143, .iconst 1, 1), (144, .iadd, 1), (145, .iastore, 1), (146, .aload_n 0, 1), (147, .getfield 76, 3), (150, .iload 4, 2), (152, .aload_n 0, 1), (153, .getfield 79, 3)]
theorem dt_Ref_answerCame_c3 (i : Nat) : decode (jm_cod M_Ref_answerCame) (tab_Ref_answerCame_c3.getD i (119, .imul, 1)).1 = .ok ((tab_Ref_answerCame_c3.getD i (119, .imul, 1)).2.1, (tab_Ref_answerCame_c3.getD i (119, .imul, 1)).2.2) := j_tab (by decide +kernel) i
theorem d_Ref_answerCame_119 : decode (jm_cod M_Ref_answerCame) 119 = .ok (.imul, 1) := dt_Ref_answerCame_c3 0
theorem d_Ref_answerCame_120 : decode (jm_cod M_Ref_answerCame) 120 = .ok (.aload_n 0, 1) := dt_Ref_answerCame_c3 1
theorem d_Ref_answerCame_121 : decode (jm_cod M_Ref_answerCame) 121 = .ok (.getfield 79, 3) := dt_Ref_answerCame_c3 2
theorem d_Ref_answerCame_124 : decode (jm_cod M_Ref_answerCame) 124 = .ok (.iload 4, 2) := dt_Ref_answerCame_c3 3
theorem d_Ref_answerCame_126 : decode (jm_cod M_Ref_answerCame) 126 = .ok (.iaload, 1) := dt_Ref_answerCame_c3 4
theorem d_Ref_answerCame_127 : decode (jm_cod M_Ref_answerCame) 127 = .ok (.iadd, 1) := dt_Ref_answerCame_c3 5
theorem d_Ref_answerCame_128 : decode (jm_cod M_Ref_answerCame) 128 = .ok (.aload_n 0, 1) := dt_Ref_answerCame_c3 6
theorem d_Ref_answerCame_129 : decode (jm_cod M_Ref_answerCame) 129 = .ok (.getfield 94, 3) := dt_Ref_answerCame_c3 7
theorem d_Ref_answerCame_132 : decode (jm_cod M_Ref_answerCame) 132 = .ok (.iload_n 3, 1) := dt_Ref_answerCame_c3 8
theorem d_Ref_answerCame_133 : decode (jm_cod M_Ref_answerCame) 133 = .ok (.laload, 1) := dt_Ref_answerCame_c3 9
theorem d_Ref_answerCame_134 : decode (jm_cod M_Ref_answerCame) 134 = .ok (.lastore, 1) := dt_Ref_answerCame_c3 10
theorem d_Ref_answerCame_135 : decode (jm_cod M_Ref_answerCame) 135 = .ok (.aload_n 0, 1) := dt_Ref_answerCame_c3 11
theorem d_Ref_answerCame_136 : decode (jm_cod M_Ref_answerCame) 136 = .ok (.getfield 79, 3) := dt_Ref_answerCame_c3 12
theorem d_Ref_answerCame_139 : decode (jm_cod M_Ref_answerCame) 139 = .ok (.iload 4, 2) := dt_Ref_answerCame_c3 13
theorem d_Ref_answerCame_141 : decode (jm_cod M_Ref_answerCame) 141 = .ok (.dup2, 1) := dt_Ref_answerCame_c3 14
theorem d_Ref_answerCame_142 : decode (jm_cod M_Ref_answerCame) 142 = .ok (.iaload, 1) := dt_Ref_answerCame_c3 15
theorem d_Ref_answerCame_143 : decode (jm_cod M_Ref_answerCame) 143 = .ok (.iconst 1, 1) := dt_Ref_answerCame_c3 16
theorem d_Ref_answerCame_144 : decode (jm_cod M_Ref_answerCame) 144 = .ok (.iadd, 1) := dt_Ref_answerCame_c3 17
theorem d_Ref_answerCame_145 : decode (jm_cod M_Ref_answerCame) 145 = .ok (.iastore, 1) := dt_Ref_answerCame_c3 18
theorem d_Ref_answerCame_146 : decode (jm_cod M_Ref_answerCame) 146 = .ok (.aload_n 0, 1) := dt_Ref_answerCame_c3 19
theorem d_Ref_answerCame_147 : decode (jm_cod M_Ref_answerCame) 147 = .ok (.getfield 76, 3) := dt_Ref_answerCame_c3 20
theorem d_Ref_answerCame_150 : decode (jm_cod M_Ref_answerCame) 150 = .ok (.iload 4, 2) := dt_Ref_answerCame_c3 21
theorem d_Ref_answerCame_152 : decode (jm_cod M_Ref_answerCame) 152 = .ok (.aload_n 0, 1) := dt_Ref_answerCame_c3 22
theorem d_Ref_answerCame_153 : decode (jm_cod M_Ref_answerCame) 153 = .ok (.getfield 79, 3) := dt_Ref_answerCame_c3 23
def tab_Ref_answerCame_c4 : List (Nat × Instr × Nat) := [(156, .iload 4, 2), (158, .iaload, 1), (159, .aload_n 0, 1), (160, .getfield 39, 3), (163, .iload 4, 2), (165, .iaload, 1), (166, .if_icmp .ne 10, 3), (169, .aload_n 0, 1), (170, .getfield 348, 3), (173, .goto 4, 3), (176, .iconst (-1), 1), (177, .iastore, 1), (178, .return_, 1)]
theorem dt_Ref_answerCame_c4 (i : Nat) : decode (jm_cod M_Ref_answerCame) (tab_Ref_answerCame_c4.getD i (156, .iload 4, 2)).1 = .ok ((tab_Ref_answerCame_c4.getD i (156, .iload 4, 2)).2.1, (tab_Ref_answerCame_c4.getD i (156, .iload 4, 2)).2.2) := j_tab (by decide +kernel) i
theorem d_Ref_answerCame_156 : decode (jm_cod M_Ref_answerCame) 156 = .ok (.iload 4, 2) := dt_Ref_answerCame_c4 0
theorem d_Ref_answerCame_158 : decode (jm_cod M_Ref_answerCame) 158 = .ok (.iaload, 1) := dt_Ref_answerCame_c4 1
theorem d_Ref_answerCame_159 : decode (jm_cod M_Ref_answerCame) 159 = .ok (.aload_n 0, 1) := dt_Ref_answerCame_c4 2
theorem d_Ref_answerCame_160 : decode (jm_cod M_Ref_answerCame) 160 = .ok (.getfield 39, 3) := dt_Ref_answerCame_c4 3
theorem d_Ref_answerCame_163 : decode (jm_cod M_Ref_answerCame) 163 = .ok (.iload 4, 2) := dt_Ref_answerCame_c4 4
theorem d_Ref_answerCame_165 : decode (jm_cod M_Ref_answerCame) 165 = .ok (.iaload, 1) := dt_Ref_answerCame_c4 5
theorem d_Ref_answerCame_166 : decode (jm_cod M_Ref_answerCame) 166 = .ok (.if_icmp .ne 10, 3) := dt_Ref_answerCame_c4 6
theorem d_Ref_answerCame_169 : decode (jm_cod M_Ref_answerCame) 169 = .ok (.aload_n 0, 1) := dt_Ref_answerCame_c4 7
theorem d_Ref_answerCame_170 : decode (jm_cod M_Ref_answerCame) 170 = .ok (.getfield 348, 3) := dt_Ref_answerCame_c4 8
theorem d_Ref_answerCame_173 : decode (jm_cod M_Ref_answerCame) 173 = .ok (.goto 4, 3) := dt_Ref_answerCame_c4 9
theorem d_Ref_answerCame_176 : decode (jm_cod M_Ref_answerCame) 176 = .ok (.iconst (-1), 1) := dt_Ref_answerCame_c4 10
theorem d_Ref_answerCame_177 : decode (jm_cod M_Ref_answerCame) 177 = .ok (.iastore, 1) := dt_Ref_answerCame_c4 11
theorem d_Ref_answerCame_178 : decode (jm_cod M_Ref_answerCame) 178 = .ok (.return_, 1) := dt_Ref_answerCame_c4 12
def tab_Ref_take_c0 : List (Nat × Instr × Nat) := [(0, .aload_n 0, 1), (1, .getfield 115, 3), (4, .iload_n 1, 1), (5, .dup2, 1), (6, .iaload, 1), (7, .iconst 1, 1), (8, .isub, 1), (9, .iastore, 1), (10, .iconst 4, 1), (11, .iload_n 1, 1), (12, .imul, 1), (13, .istore_n 2, 1), (14, .iload_n 2, 1), (15, .iconst 4, 1), (16, .iload_n 1, 1), (17, .imul, 1), (18, .aload_n 0, 1), (19, .getfield 115, 3), (22, .iload_n 1, 1), (23, .iaload, 1), (24, .iadd, 1), (25, .if_icmp .ge 51, 3), (28, .aload_n 0, 1), (29, .getfield 106, 3)]
theorem dt_Ref_take_c0 (i : Nat) : decode (jm_cod M_Ref_take) (tab_Ref_take_c0.getD i (0, .aload_n 0, 1)).1 = .ok ((tab_Ref_take_c0.getD i (0, .aload_n 0, 1)).2.1, (tab_Ref_take_c0.getD i (0, .aload_n 0, 1)).2.2) := j_tab (by decide +kernel) i
theorem d_Ref_take_0 : decode (jm_cod M_Ref_take) 0 = .ok (.aload_n 0, 1) := dt_Ref_take_c0 0
theorem d_Ref_take_1 : decode (jm_cod M_Ref_take) 1 = .ok (.getfield 115, 3) := dt_Ref_take_c0 1
theorem d_Ref_take_4 : decode (jm_cod M_Ref_take) 4 = .ok (.iload_n 1, 1) := dt_Ref_take_c0 2
theorem d_Ref_take_5 : decode (jm_cod M_Ref_take) 5 = .ok (.dup2, 1) := dt_Ref_take_c0 3
theorem d_Ref_take_6 : decode (jm_cod M_Ref_take) 6 = .ok (.iaload, 1) := dt_Ref_take_c0 4
theorem d_Ref_take_7 : decode (jm_cod M_Ref_take) 7 = .ok (.iconst 1, 1) := dt_Ref_take_c0 5
theorem d_Ref_take_8 : decode (jm_cod M_Ref_take) 8 = .ok (.isub, 1) := dt_Ref_take_c0 6
theorem d_Ref_take_9 : decode (jm_cod M_Ref_take) 9 = .ok (.iastore, 1) := dt_Ref_take_c0 7
theorem d_Ref_take_10 : decode (jm_cod M_Ref_take) 10 = .ok (.iconst 4, 1) := dt_Ref_take_c0 8
theorem d_Ref_take_11 : decode (jm_cod M_Ref_take) 11 = .ok (.iload_n 1, 1) := dt_Ref_take_c0 9
theorem d_Ref_take_12 : decode (jm_cod M_Ref_take) 12 = .ok (.imul, 1) := dt_Ref_take_c0 10
theorem d_Ref_take_13 : decode (jm_cod M_Ref_take) 13 = .ok (.istore_n 2, 1) := dt_Ref_take_c0 11
theorem d_Ref_take_14 : decode (jm_cod M_Ref_take) 14 = .ok (.iload_n 2, 1) := dt_Ref_take_c0 12
theorem d_Ref_take_15 : decode (jm_cod M_Ref_take) 15 = .ok (.iconst 4, 1) := dt_Ref_take_c0 13
theorem d_Ref_take_16 : decode (jm_cod M_Ref_take) 16 = .ok (.iload_n 1, 1) := dt_Ref_take_c0 14
theorem d_Ref_take_17 : decode (jm_cod M_Ref_take) 17 = .ok (.imul, 1) := dt_Ref_take_c0 15
theorem d_Ref_take_18 : decode (jm_cod M_Ref_take) 18 = .ok (.aload_n 0, 1) := dt_Ref_take_c0 16
theorem d_Ref_take_19 : decode (jm_cod M_Ref_take) 19 = .ok (.getfield 115, 3) := dt_Ref_take_c0 17
theorem d_Ref_take_22 : decode (jm_cod M_Ref_take) 22 = .ok (.iload_n 1, 1) := dt_Ref_take_c0 18
theorem d_Ref_take_23 : decode (jm_cod M_Ref_take) 23 = .ok (.iaload, 1) := dt_Ref_take_c0 19
theorem d_Ref_take_24 : decode (jm_cod M_Ref_take) 24 = .ok (.iadd, 1) := dt_Ref_take_c0 20
theorem d_Ref_take_25 : decode (jm_cod M_Ref_take) 25 = .ok (.if_icmp .ge 51, 3) := dt_Ref_take_c0 21
theorem d_Ref_take_28 : decode (jm_cod M_Ref_take) 28 = .ok (.aload_n 0, 1) := dt_Ref_take_c0 22
theorem d_Ref_take_29 : decode (jm_cod M_Ref_take) 29 = .ok (.getfield 106, 3) := dt_Ref_take_c0 23
def tab_Ref_take_c1 : List (Nat × Instr × Nat) := [(32, .iload_n 2, 1), (33, .aload_n 0, 1), (34, .getfield 106, 3), (37, .iload_n 2, 1), (38, .iconst 1, 1), (39, .iadd, 1), (40, .laload, 1), (41, .lastore, 1), (42, .aload_n 0, 1), (43, .getfield 109, 3), (46, .iload_n 2, 1), (47, .aload_n 0, 1), (48, .getfield 109, 3), (51, .iload_n 2, 1), (52, .iconst 1, 1), (53, .iadd, 1), (54, .iaload, 1), (55, .iastore, 1), (56, .aload_n 0, 1), (57, .getfield 112, 3), (60, .iload_n 2, 1), (61, .aload_n 0, 1), (62, .getfield 112, 3), (65, .iload_n 2, 1)]
theorem dt_Ref_take_c1 (i : Nat) : decode (jm_cod M_Ref_take) (tab_Ref_take_c1.getD i (32, .iload_n 2, 1)).1 = .ok ((tab_Ref_take_c1.getD i (32, .iload_n 2, 1)).2.1, (tab_Ref_take_c1.getD i (32, .iload_n 2, 1)).2.2) := j_tab (by decide +kernel) i
theorem d_Ref_take_32 : decode (jm_cod M_Ref_take) 32 = .ok (.iload_n 2, 1) := dt_Ref_take_c1 0
theorem d_Ref_take_33 : decode (jm_cod M_Ref_take) 33 = .ok (.aload_n 0, 1) := dt_Ref_take_c1 1
theorem d_Ref_take_34 : decode (jm_cod M_Ref_take) 34 = .ok (.getfield 106, 3) := dt_Ref_take_c1 2
theorem d_Ref_take_37 : decode (jm_cod M_Ref_take) 37 = .ok (.iload_n 2, 1) := dt_Ref_take_c1 3
theorem d_Ref_take_38 : decode (jm_cod M_Ref_take) 38 = .ok (.iconst 1, 1) := dt_Ref_take_c1 4
theorem d_Ref_take_39 : decode (jm_cod M_Ref_take) 39 = .ok (.iadd, 1) := dt_Ref_take_c1 5
theorem d_Ref_take_40 : decode (jm_cod M_Ref_take) 40 = .ok (.laload, 1) := dt_Ref_take_c1 6
theorem d_Ref_take_41 : decode (jm_cod M_Ref_take) 41 = .ok (.lastore, 1) := dt_Ref_take_c1 7
theorem d_Ref_take_42 : decode (jm_cod M_Ref_take) 42 = .ok (.aload_n 0, 1) := dt_Ref_take_c1 8
theorem d_Ref_take_43 : decode (jm_cod M_Ref_take) 43 = .ok (.getfield 109, 3) := dt_Ref_take_c1 9
theorem d_Ref_take_46 : decode (jm_cod M_Ref_take) 46 = .ok (.iload_n 2, 1) := dt_Ref_take_c1 10
theorem d_Ref_take_47 : decode (jm_cod M_Ref_take) 47 = .ok (.aload_n 0, 1) := dt_Ref_take_c1 11
theorem d_Ref_take_48 : decode (jm_cod M_Ref_take) 48 = .ok (.getfield 109, 3) := dt_Ref_take_c1 12
theorem d_Ref_take_51 : decode (jm_cod M_Ref_take) 51 = .ok (.iload_n 2, 1) := dt_Ref_take_c1 13
theorem d_Ref_take_52 : decode (jm_cod M_Ref_take) 52 = .ok (.iconst 1, 1) := dt_Ref_take_c1 14
theorem d_Ref_take_53 : decode (jm_cod M_Ref_take) 53 = .ok (.iadd, 1) := dt_Ref_take_c1 15
theorem d_Ref_take_54 : decode (jm_cod M_Ref_take) 54 = .ok (.iaload, 1) := dt_Ref_take_c1 16
theorem d_Ref_take_55 : decode (jm_cod M_Ref_take) 55 = .ok (.iastore, 1) := dt_Ref_take_c1 17
theorem d_Ref_take_56 : decode (jm_cod M_Ref_take) 56 = .ok (.aload_n 0, 1) := dt_Ref_take_c1 18
theorem d_Ref_take_57 : decode (jm_cod M_Ref_take) 57 = .ok (.getfield 112, 3) := dt_Ref_take_c1 19
theorem d_Ref_take_60 : decode (jm_cod M_Ref_take) 60 = .ok (.iload_n 2, 1) := dt_Ref_take_c1 20
theorem d_Ref_take_61 : decode (jm_cod M_Ref_take) 61 = .ok (.aload_n 0, 1) := dt_Ref_take_c1 21
theorem d_Ref_take_62 : decode (jm_cod M_Ref_take) 62 = .ok (.getfield 112, 3) := dt_Ref_take_c1 22
theorem d_Ref_take_65 : decode (jm_cod M_Ref_take) 65 = .ok (.iload_n 2, 1) := dt_Ref_take_c1 23
def tab_Ref_take_c2 : List (Nat × Instr × Nat) := [(66, .iconst 1, 1), (67, .iadd, 1), (68, .iaload, 1), (69, .iastore, 1), (70, .iinc 2 1, 3), (73, .goto (-59), 3), (76, .return_, 1)]
theorem dt_Ref_take_c2 (i : Nat) : decode (jm_cod M_Ref_take) (tab_Ref_take_c2.getD i (66, .iconst 1, 1)).1 = .ok ((tab_Ref_take_c2.getD i (66, .iconst 1, 1)).2.1, (tab_Ref_take_c2.getD i (66, .iconst 1, 1)).2.2) := j_tab (by decide +kernel) i
theorem d_Ref_take_66 : decode (jm_cod M_Ref_take) 66 = .ok (.iconst 1, 1) := dt_Ref_take_c2 0
theorem d_Ref_take_67 : decode (jm_cod M_Ref_take) 67 = .ok (.iadd, 1) := dt_Ref_take_c2 1
theorem d_Ref_take_68 : decode (jm_cod M_Ref_take) 68 = .ok (.iaload, 1) := dt_Ref_take_c2 2
theorem d_Ref_take_69 : decode (jm_cod M_Ref_take) 69 = .ok (.iastore, 1) := dt_Ref_take_c2 3
theorem d_Ref_take_70 : decode (jm_cod M_Ref_take) 70 = .ok (.iinc 2 1, 3) := dt_Ref_take_c2 4
theorem d_Ref_take_73 : decode (jm_cod M_Ref_take) 73 = .ok (.goto (-59), 3) := dt_Ref_take_c2 5
theorem d_Ref_take_76 : decode (jm_cod M_Ref_take) 76 = .ok (.return_, 1) := dt_Ref_take_c2 6
def tab_Ref_answered_c0 : List (Nat × Instr × Nat) := [(0, .iconst 0, 1), (1, .istore 4, 2), (3, .iload 4, 2), (5, .aload_n 0, 1), (6, .getfield 337, 3), (9, .if_icmp .ge 67, 3), (12, .aload_n 0, 1), (13, .getfield 36, 3), (16, .iload 4, 2), (18, .iaload, 1), (19, .iload_n 1, 1), (20, .if_icmp .ne 50, 3), (23, .aload_n 0, 1), (24, .getfield 48, 3), (27, .iload 4, 2), (29, .baload, 1), (30, .iload_n 3, 1), (31, .if_icmp .ne 39, 3), (34, .aload_n 0, 1), (35, .getfield 63, 3), (38, .iload 4, 2), (40, .iaload, 1), (41, .iload_n 2, 1), (42, .if_icmp .ne 28, 3)]
theorem dt_Ref_answered_c0 (i : Nat) : decode (jm_cod M_Ref_answered) (tab_Ref_answered_c0.getD i (0, .iconst 0, 1)).1 = .ok ((tab_Ref_answered_c0.getD i (0, .iconst 0, 1)).2.1, (tab_Ref_answered_c0.getD i (0, .iconst 0, 1)).2.2) := j_tab (by decide +kernel) i
theorem d_Ref_answered_0 : decode (jm_cod M_Ref_answered) 0 = .ok (.iconst 0, 1) := dt_Ref_answered_c0 0
theorem d_Ref_answered_1 : decode (jm_cod M_Ref_answered) 1 = .ok (.istore 4, 2) := dt_Ref_answered_c0 1
theorem d_Ref_answered_3 : decode (jm_cod M_Ref_answered) 3 = .ok (.iload 4, 2) := dt_Ref_answered_c0 2
theorem d_Ref_answered_5 : decode (jm_cod M_Ref_answered) 5 = .ok (.aload_n 0, 1) := dt_Ref_answered_c0 3
theorem d_Ref_answered_6 : decode (jm_cod M_Ref_answered) 6 = .ok (.getfield 337, 3) := dt_Ref_answered_c0 4
theorem d_Ref_answered_9 : decode (jm_cod M_Ref_answered) 9 = .ok (.if_icmp .ge 67, 3) := dt_Ref_answered_c0 5
theorem d_Ref_answered_12 : decode (jm_cod M_Ref_answered) 12 = .ok (.aload_n 0, 1) := dt_Ref_answered_c0 6
theorem d_Ref_answered_13 : decode (jm_cod M_Ref_answered) 13 = .ok (.getfield 36, 3) := dt_Ref_answered_c0 7
theorem d_Ref_answered_16 : decode (jm_cod M_Ref_answered) 16 = .ok (.iload 4, 2) := dt_Ref_answered_c0 8
theorem d_Ref_answered_18 : decode (jm_cod M_Ref_answered) 18 = .ok (.iaload, 1) := dt_Ref_answered_c0 9
theorem d_Ref_answered_19 : decode (jm_cod M_Ref_answered) 19 = .ok (.iload_n 1, 1) := dt_Ref_answered_c0 10
theorem d_Ref_answered_20 : decode (jm_cod M_Ref_answered) 20 = .ok (.if_icmp .ne 50, 3) := dt_Ref_answered_c0 11
theorem d_Ref_answered_23 : decode (jm_cod M_Ref_answered) 23 = .ok (.aload_n 0, 1) := dt_Ref_answered_c0 12
theorem d_Ref_answered_24 : decode (jm_cod M_Ref_answered) 24 = .ok (.getfield 48, 3) := dt_Ref_answered_c0 13
theorem d_Ref_answered_27 : decode (jm_cod M_Ref_answered) 27 = .ok (.iload 4, 2) := dt_Ref_answered_c0 14
theorem d_Ref_answered_29 : decode (jm_cod M_Ref_answered) 29 = .ok (.baload, 1) := dt_Ref_answered_c0 15
theorem d_Ref_answered_30 : decode (jm_cod M_Ref_answered) 30 = .ok (.iload_n 3, 1) := dt_Ref_answered_c0 16
theorem d_Ref_answered_31 : decode (jm_cod M_Ref_answered) 31 = .ok (.if_icmp .ne 39, 3) := dt_Ref_answered_c0 17
theorem d_Ref_answered_34 : decode (jm_cod M_Ref_answered) 34 = .ok (.aload_n 0, 1) := dt_Ref_answered_c0 18
theorem d_Ref_answered_35 : decode (jm_cod M_Ref_answered) 35 = .ok (.getfield 63, 3) := dt_Ref_answered_c0 19
theorem d_Ref_answered_38 : decode (jm_cod M_Ref_answered) 38 = .ok (.iload 4, 2) := dt_Ref_answered_c0 20
theorem d_Ref_answered_40 : decode (jm_cod M_Ref_answered) 40 = .ok (.iaload, 1) := dt_Ref_answered_c0 21
theorem d_Ref_answered_41 : decode (jm_cod M_Ref_answered) 41 = .ok (.iload_n 2, 1) := dt_Ref_answered_c0 22
theorem d_Ref_answered_42 : decode (jm_cod M_Ref_answered) 42 = .ok (.if_icmp .ne 28, 3) := dt_Ref_answered_c0 23
def tab_Ref_answered_c1 : List (Nat × Instr × Nat) := [(45, .aload_n 0, 1), (46, .getfield 73, 3), (49, .iload 4, 2), (51, .iaload, 1), (52, .iconst (-1), 1), (53, .if_icmp .eq 17, 3), (56, .aload_n 0, 1), (57, .getfield 76, 3), (60, .iload 4, 2), (62, .iaload, 1), (63, .iconst (-1), 1), (64, .if_icmp .ne 6, 3), (67, .iload 4, 2), (69, .ireturn, 1), (70, .iinc 4 1, 3), (73, .goto (-70), 3), (76, .iconst (-1), 1), (77, .ireturn, 1)]
theorem dt_Ref_answered_c1 (i : Nat) : decode (jm_cod M_Ref_answered) (tab_Ref_answered_c1.getD i (45, .aload_n 0, 1)).1 = .ok ((tab_Ref_answered_c1.getD i (45, .aload_n 0, 1)).2.1, (tab_Ref_answered_c1.getD i (45, .aload_n 0, 1)).2.2) := j_tab (by decide +kernel) i
theorem d_Ref_answered_45 : decode (jm_cod M_Ref_answered) 45 = .ok (.aload_n 0, 1) := dt_Ref_answered_c1 0
theorem d_Ref_answered_46 : decode (jm_cod M_Ref_answered) 46 = .ok (.getfield 73, 3) := dt_Ref_answered_c1 1
theorem d_Ref_answered_49 : decode (jm_cod M_Ref_answered) 49 = .ok (.iload 4, 2) := dt_Ref_answered_c1 2
theorem d_Ref_answered_51 : decode (jm_cod M_Ref_answered) 51 = .ok (.iaload, 1) := dt_Ref_answered_c1 3
theorem d_Ref_answered_52 : decode (jm_cod M_Ref_answered) 52 = .ok (.iconst (-1), 1) := dt_Ref_answered_c1 4
theorem d_Ref_answered_53 : decode (jm_cod M_Ref_answered) 53 = .ok (.if_icmp .eq 17, 3) := dt_Ref_answered_c1 5
theorem d_Ref_answered_56 : decode (jm_cod M_Ref_answered) 56 = .ok (.aload_n 0, 1) := dt_Ref_answered_c1 6
theorem d_Ref_answered_57 : decode (jm_cod M_Ref_answered) 57 = .ok (.getfield 76, 3) := dt_Ref_answered_c1 7
theorem d_Ref_answered_60 : decode (jm_cod M_Ref_answered) 60 = .ok (.iload 4, 2) := dt_Ref_answered_c1 8
theorem d_Ref_answered_62 : decode (jm_cod M_Ref_answered) 62 = .ok (.iaload, 1) := dt_Ref_answered_c1 9
theorem d_Ref_answered_63 : decode (jm_cod M_Ref_answered) 63 = .ok (.iconst (-1), 1) := dt_Ref_answered_c1 10
theorem d_Ref_answered_64 : decode (jm_cod M_Ref_answered) 64 = .ok (.if_icmp .ne 6, 3) := dt_Ref_answered_c1 11
theorem d_Ref_answered_67 : decode (jm_cod M_Ref_answered) 67 = .ok (.iload 4, 2) := dt_Ref_answered_c1 12
theorem d_Ref_answered_69 : decode (jm_cod M_Ref_answered) 69 = .ok (.ireturn, 1) := dt_Ref_answered_c1 13
theorem d_Ref_answered_70 : decode (jm_cod M_Ref_answered) 70 = .ok (.iinc 4 1, 3) := dt_Ref_answered_c1 14
theorem d_Ref_answered_73 : decode (jm_cod M_Ref_answered) 73 = .ok (.goto (-70), 3) := dt_Ref_answered_c1 15
theorem d_Ref_answered_76 : decode (jm_cod M_Ref_answered) 76 = .ok (.iconst (-1), 1) := dt_Ref_answered_c1 16
theorem d_Ref_answered_77 : decode (jm_cod M_Ref_answered) 77 = .ok (.ireturn, 1) := dt_Ref_answered_c1 17
def tab_Ref_goSlave_c0 : List (Nat × Instr × Nat) := [(0, .iconst 5, 1), (1, .iconst 4, 1), (2, .iload_n 1, 1), (3, .iadd, 1), (4, .imul, 1), (5, .iload_n 2, 1), (6, .iadd, 1), (7, .istore_n 3, 1), (8, .iload_n 2, 1), (9, .iconst 2, 1), (10, .if_icmp .ne 11, 3), (13, .aload_n 0, 1), (14, .iload_n 1, 1), (15, .invokevirtual 507, 3), (18, .goto 81, 3), (21, .iload_n 2, 1), (22, .iconst 4, 1), (23, .if_icmp .ne 11, 3), (26, .aload_n 0, 1), (27, .iload_n 1, 1), (28, .invokevirtual 510, 3), (31, .goto 68, 3), (34, .aload_n 0, 1), (35, .aload_n 0, 1)]
theorem dt_Ref_goSlave_c0 (i : Nat) : decode (jm_cod M_Ref_goSlave) (tab_Ref_goSlave_c0.getD i (0, .iconst 5, 1)).1 = .ok ((tab_Ref_goSlave_c0.getD i (0, .iconst 5, 1)).2.1, (tab_Ref_goSlave_c0.getD i (0, .iconst 5, 1)).2.2) := j_tab (by decide +kernel) i
theorem d_Ref_goSlave_0 : decode (jm_cod M_Ref_goSlave) 0 = .ok (.iconst 5, 1) := dt_Ref_goSlave_c0 0
theorem d_Ref_goSlave_1 : decode (jm_cod M_Ref_goSlave) 1 = .ok (.iconst 4, 1) := dt_Ref_goSlave_c0 1
theorem d_Ref_goSlave_2 : decode (jm_cod M_Ref_goSlave) 2 = .ok (.iload_n 1, 1) := dt_Ref_goSlave_c0 2
theorem d_Ref_goSlave_3 : decode (jm_cod M_Ref_goSlave) 3 = .ok (.iadd, 1) := dt_Ref_goSlave_c0 3
theorem d_Ref_goSlave_4 : decode (jm_cod M_Ref_goSlave) 4 = .ok (.imul, 1) := dt_Ref_goSlave_c0 4
theorem d_Ref_goSlave_5 : decode (jm_cod M_Ref_goSlave) 5 = .ok (.iload_n 2, 1) := dt_Ref_goSlave_c0 5
theorem d_Ref_goSlave_6 : decode (jm_cod M_Ref_goSlave) 6 = .ok (.iadd, 1) := dt_Ref_goSlave_c0 6
theorem d_Ref_goSlave_7 : decode (jm_cod M_Ref_goSlave) 7 = .ok (.istore_n 3, 1) := dt_Ref_goSlave_c0 7
theorem d_Ref_goSlave_8 : decode (jm_cod M_Ref_goSlave) 8 = .ok (.iload_n 2, 1) := dt_Ref_goSlave_c0 8
theorem d_Ref_goSlave_9 : decode (jm_cod M_Ref_goSlave) 9 = .ok (.iconst 2, 1) := dt_Ref_goSlave_c0 9
theorem d_Ref_goSlave_10 : decode (jm_cod M_Ref_goSlave) 10 = .ok (.if_icmp .ne 11, 3) := dt_Ref_goSlave_c0 10
theorem d_Ref_goSlave_13 : decode (jm_cod M_Ref_goSlave) 13 = .ok (.aload_n 0, 1) := dt_Ref_goSlave_c0 11
theorem d_Ref_goSlave_14 : decode (jm_cod M_Ref_goSlave) 14 = .ok (.iload_n 1, 1) := dt_Ref_goSlave_c0 12
theorem d_Ref_goSlave_15 : decode (jm_cod M_Ref_goSlave) 15 = .ok (.invokevirtual 507, 3) := dt_Ref_goSlave_c0 13
theorem d_Ref_goSlave_18 : decode (jm_cod M_Ref_goSlave) 18 = .ok (.goto 81, 3) := dt_Ref_goSlave_c0 14
theorem d_Ref_goSlave_21 : decode (jm_cod M_Ref_goSlave) 21 = .ok (.iload_n 2, 1) := dt_Ref_goSlave_c0 15
theorem d_Ref_goSlave_22 : decode (jm_cod M_Ref_goSlave) 22 = .ok (.iconst 4, 1) := dt_Ref_goSlave_c0 16
theorem d_Ref_goSlave_23 : decode (jm_cod M_Ref_goSlave) 23 = .ok (.if_icmp .ne 11, 3) := dt_Ref_goSlave_c0 17
theorem d_Ref_goSlave_26 : decode (jm_cod M_Ref_goSlave) 26 = .ok (.aload_n 0, 1) := dt_Ref_goSlave_c0 18
theorem d_Ref_goSlave_27 : decode (jm_cod M_Ref_goSlave) 27 = .ok (.iload_n 1, 1) := dt_Ref_goSlave_c0 19
theorem d_Ref_goSlave_28 : decode (jm_cod M_Ref_goSlave) 28 = .ok (.invokevirtual 510, 3) := dt_Ref_goSlave_c0 20
theorem d_Ref_goSlave_31 : decode (jm_cod M_Ref_goSlave) 31 = .ok (.goto 68, 3) := dt_Ref_goSlave_c0 21
theorem d_Ref_goSlave_34 : decode (jm_cod M_Ref_goSlave) 34 = .ok (.aload_n 0, 1) := dt_Ref_goSlave_c0 22
theorem d_Ref_goSlave_35 : decode (jm_cod M_Ref_goSlave) 35 = .ok (.aload_n 0, 1) := dt_Ref_goSlave_c0 23
def tab_Ref_goSlave_c1 : List (Nat × Instr × Nat) := [(36, .iconst 1, 1), (37, .iload_n 1, 1), (38, .iload_n 2, 1), (39, .invokevirtual 388, 3), (42, .invokevirtual 473, 3), (45, .iload_n 2, 1), (46, .ifCond .ne 17, 3), (49, .aload_n 0, 1), (50, .iload_n 1, 1), (51, .aload_n 0, 1), (52, .getfield 94, 3), (55, .iload_n 3, 1), (56, .laload, 1), (57, .invokevirtual 513, 3), (60, .goto 39, 3), (63, .iload_n 2, 1), (64, .iconst 1, 1), (65, .if_icmp .ne 23, 3), (68, .aload_n 0, 1), (69, .iload_n 1, 1), (70, .aload_n 0, 1), (71, .getfield 94, 3), (74, .iload_n 3, 1), (75, .laload, 1)]
theorem dt_Ref_goSlave_c1 (i : Nat) : decode (jm_cod M_Ref_goSlave) (tab_Ref_goSlave_c1.getD i (36, .iconst 1, 1)).1 = .ok ((tab_Ref_goSlave_c1.getD i (36, .iconst 1, 1)).2.1, (tab_Ref_goSlave_c1.getD i (36, .iconst 1, 1)).2.2) := j_tab (by decide +kernel) i
theorem d_Ref_goSlave_36 : decode (jm_cod M_Ref_goSlave) 36 = .ok (.iconst 1, 1) := dt_Ref_goSlave_c1 0
theorem d_Ref_goSlave_37 : decode (jm_cod M_Ref_goSlave) 37 = .ok (.iload_n 1, 1) := dt_Ref_goSlave_c1 1
theorem d_Ref_goSlave_38 : decode (jm_cod M_Ref_goSlave) 38 = .ok (.iload_n 2, 1) := dt_Ref_goSlave_c1 2
theorem d_Ref_goSlave_39 : decode (jm_cod M_Ref_goSlave) 39 = .ok (.invokevirtual 388, 3) := dt_Ref_goSlave_c1 3
theorem d_Ref_goSlave_42 : decode (jm_cod M_Ref_goSlave) 42 = .ok (.invokevirtual 473, 3) := dt_Ref_goSlave_c1 4
theorem d_Ref_goSlave_45 : decode (jm_cod M_Ref_goSlave) 45 = .ok (.iload_n 2, 1) := dt_Ref_goSlave_c1 5
theorem d_Ref_goSlave_46 : decode (jm_cod M_Ref_goSlave) 46 = .ok (.ifCond .ne 17, 3) := dt_Ref_goSlave_c1 6
theorem d_Ref_goSlave_49 : decode (jm_cod M_Ref_goSlave) 49 = .ok (.aload_n 0, 1) := dt_Ref_goSlave_c1 7
theorem d_Ref_goSlave_50 : decode (jm_cod M_Ref_goSlave) 50 = .ok (.iload_n 1, 1) := dt_Ref_goSlave_c1 8
theorem d_Ref_goSlave_51 : decode (jm_cod M_Ref_goSlave) 51 = .ok (.aload_n 0, 1) := dt_Ref_goSlave_c1 9
theorem d_Ref_goSlave_52 : decode (jm_cod M_Ref_goSlave) 52 = .ok (.getfield 94, 3) := dt_Ref_goSlave_c1 10
theorem d_Ref_goSlave_55 : decode (jm_cod M_Ref_goSlave) 55 = .ok (.iload_n 3, 1) := dt_Ref_goSlave_c1 11
theorem d_Ref_goSlave_56 : decode (jm_cod M_Ref_goSlave) 56 = .ok (.laload, 1) := dt_Ref_goSlave_c1 12
theorem d_Ref_goSlave_57 : decode (jm_cod M_Ref_goSlave) 57 = .ok (.invokevirtual 513, 3) := dt_Ref_goSlave_c1 13
theorem d_Ref_goSlave_60 : decode (jm_cod M_Ref_goSlave) 60 = .ok (.goto 39, 3) := dt_Ref_goSlave_c1 14
theorem d_Ref_goSlave_63 : decode (jm_cod M_Ref_goSlave) 63 = .ok (.iload_n 2, 1) := dt_Ref_goSlave_c1 15
theorem d_Ref_goSlave_64 : decode (jm_cod M_Ref_goSlave) 64 = .ok (.iconst 1, 1) := dt_Ref_goSlave_c1 16
theorem d_Ref_goSlave_65 : decode (jm_cod M_Ref_goSlave) 65 = .ok (.if_icmp .ne 23, 3) := dt_Ref_goSlave_c1 17
theorem d_Ref_goSlave_68 : decode (jm_cod M_Ref_goSlave) 68 = .ok (.aload_n 0, 1) := dt_Ref_goSlave_c1 18
theorem d_Ref_goSlave_69 : decode (jm_cod M_Ref_goSlave) 69 = .ok (.iload_n 1, 1) := dt_Ref_goSlave_c1 19
theorem d_Ref_goSlave_70 : decode (jm_cod M_Ref_goSlave) 70 = .ok (.aload_n 0, 1) := dt_Ref_goSlave_c1 20
theorem d_Ref_goSlave_71 : decode (jm_cod M_Ref_goSlave) 71 = .ok (.getfield 94, 3) := dt_Ref_goSlave_c1 21
theorem d_Ref_goSlave_74 : decode (jm_cod M_Ref_goSlave) 74 = .ok (.iload_n 3, 1) := dt_Ref_goSlave_c1 22
theorem d_Ref_goSlave_75 : decode (jm_cod M_Ref_goSlave) 75 = .ok (.laload, 1) := dt_Ref_goSlave_c1 23
def tab_Ref_goSlave_c2 : List (Nat × Instr × Nat) := [(76, .aload_n 0, 1), (77, .getfield 97, 3), (80, .iload_n 3, 1), (81, .iaload, 1), (82, .invokevirtual 516, 3), (85, .goto 14, 3), (88, .aload_n 0, 1), (89, .iload_n 1, 1), (90, .aload_n 0, 1), (91, .getfield 94, 3), (94, .iload_n 3, 1), (95, .laload, 1), (96, .invokevirtual 520, 3), (99, .return_, 1)]
theorem dt_Ref_goSlave_c2 (i : Nat) : decode (jm_cod M_Ref_goSlave) (tab_Ref_goSlave_c2.getD i (76, .aload_n 0, 1)).1 = .ok ((tab_Ref_goSlave_c2.getD i (76, .aload_n 0, 1)).2.1, (tab_Ref_goSlave_c2.getD i (76, .aload_n 0, 1)).2.2) := j_tab (by decide +kernel) i
theorem d_Ref_goSlave_76 : decode (jm_cod M_Ref_goSlave) 76 = .ok (.aload_n 0, 1) := dt_Ref_goSlave_c2 0
theorem d_Ref_goSlave_77 : decode (jm_cod M_Ref_goSlave) 77 = .ok (.getfield 97, 3) := dt_Ref_goSlave_c2 1
theorem d_Ref_goSlave_80 : decode (jm_cod M_Ref_goSlave) 80 = .ok (.iload_n 3, 1) := dt_Ref_goSlave_c2 2
theorem d_Ref_goSlave_81 : decode (jm_cod M_Ref_goSlave) 81 = .ok (.iaload, 1) := dt_Ref_goSlave_c2 3
theorem d_Ref_goSlave_82 : decode (jm_cod M_Ref_goSlave) 82 = .ok (.invokevirtual 516, 3) := dt_Ref_goSlave_c2 4
theorem d_Ref_goSlave_85 : decode (jm_cod M_Ref_goSlave) 85 = .ok (.goto 14, 3) := dt_Ref_goSlave_c2 5
theorem d_Ref_goSlave_88 : decode (jm_cod M_Ref_goSlave) 88 = .ok (.aload_n 0, 1) := dt_Ref_goSlave_c2 6
theorem d_Ref_goSlave_89 : decode (jm_cod M_Ref_goSlave) 89 = .ok (.iload_n 1, 1) := dt_Ref_goSlave_c2 7
theorem d_Ref_goSlave_90 : decode (jm_cod M_Ref_goSlave) 90 = .ok (.aload_n 0, 1) := dt_Ref_goSlave_c2 8
theorem d_Ref_goSlave_91 : decode (jm_cod M_Ref_goSlave) 91 = .ok (.getfield 94, 3) := dt_Ref_goSlave_c2 9
theorem d_Ref_goSlave_94 : decode (jm_cod M_Ref_goSlave) 94 = .ok (.iload_n 3, 1) := dt_Ref_goSlave_c2 10
theorem d_Ref_goSlave_95 : decode (jm_cod M_Ref_goSlave) 95 = .ok (.laload, 1) := dt_Ref_goSlave_c2 11
theorem d_Ref_goSlave_96 : decode (jm_cod M_Ref_goSlave) 96 = .ok (.invokevirtual 520, 3) := dt_Ref_goSlave_c2 12
theorem d_Ref_goSlave_99 : decode (jm_cod M_Ref_goSlave) 99 = .ok (.return_, 1) := dt_Ref_goSlave_c2 13
def tab_Ref_writeGoes_c0 : List (Nat × Instr × Nat) := [(0, .aload_n 0, 1), (1, .iconst 1, 1), (2, .iload_n 1, 1), (3, .iconst 2, 1), (4, .invokevirtual 388, 3), (7, .istore_n 2, 1), (8, .iconst 5, 1), (9, .iconst 4, 1), (10, .iload_n 1, 1), (11, .iadd, 1), (12, .imul, 1), (13, .istore_n 3, 1), (14, .aload_n 0, 1), (15, .iload_n 2, 1), (16, .lconst 0, 1), (17, .aload_n 0, 1), (18, .getfield 97, 3), (21, .iload_n 3, 1), (22, .iconst 2, 1), (23, .iadd, 1), (24, .iaload, 1), (25, .aload_n 0, 1), (26, .getfield 348, 3), (29, .invokevirtual 469, 3)]
theorem dt_Ref_writeGoes_c0 (i : Nat) : decode (jm_cod M_Ref_writeGoes) (tab_Ref_writeGoes_c0.getD i (0, .aload_n 0, 1)).1 = .ok ((tab_Ref_writeGoes_c0.getD i (0, .aload_n 0, 1)).2.1, (tab_Ref_writeGoes_c0.getD i (0, .aload_n 0, 1)).2.2) := j_tab (by decide +kernel) i
theorem d_Ref_writeGoes_0 : decode (jm_cod M_Ref_writeGoes) 0 = .ok (.aload_n 0, 1) := dt_Ref_writeGoes_c0 0
theorem d_Ref_writeGoes_1 : decode (jm_cod M_Ref_writeGoes) 1 = .ok (.iconst 1, 1) := dt_Ref_writeGoes_c0 1
theorem d_Ref_writeGoes_2 : decode (jm_cod M_Ref_writeGoes) 2 = .ok (.iload_n 1, 1) := dt_Ref_writeGoes_c0 2
theorem d_Ref_writeGoes_3 : decode (jm_cod M_Ref_writeGoes) 3 = .ok (.iconst 2, 1) := dt_Ref_writeGoes_c0 3
theorem d_Ref_writeGoes_4 : decode (jm_cod M_Ref_writeGoes) 4 = .ok (.invokevirtual 388, 3) := dt_Ref_writeGoes_c0 4
theorem d_Ref_writeGoes_7 : decode (jm_cod M_Ref_writeGoes) 7 = .ok (.istore_n 2, 1) := dt_Ref_writeGoes_c0 5
theorem d_Ref_writeGoes_8 : decode (jm_cod M_Ref_writeGoes) 8 = .ok (.iconst 5, 1) := dt_Ref_writeGoes_c0 6
theorem d_Ref_writeGoes_9 : decode (jm_cod M_Ref_writeGoes) 9 = .ok (.iconst 4, 1) := dt_Ref_writeGoes_c0 7
theorem d_Ref_writeGoes_10 : decode (jm_cod M_Ref_writeGoes) 10 = .ok (.iload_n 1, 1) := dt_Ref_writeGoes_c0 8
theorem d_Ref_writeGoes_11 : decode (jm_cod M_Ref_writeGoes) 11 = .ok (.iadd, 1) := dt_Ref_writeGoes_c0 9
theorem d_Ref_writeGoes_12 : decode (jm_cod M_Ref_writeGoes) 12 = .ok (.imul, 1) := dt_Ref_writeGoes_c0 10
theorem d_Ref_writeGoes_13 : decode (jm_cod M_Ref_writeGoes) 13 = .ok (.istore_n 3, 1) := dt_Ref_writeGoes_c0 11
theorem d_Ref_writeGoes_14 : decode (jm_cod M_Ref_writeGoes) 14 = .ok (.aload_n 0, 1) := dt_Ref_writeGoes_c0 12
theorem d_Ref_writeGoes_15 : decode (jm_cod M_Ref_writeGoes) 15 = .ok (.iload_n 2, 1) := dt_Ref_writeGoes_c0 13
theorem d_Ref_writeGoes_16 : decode (jm_cod M_Ref_writeGoes) 16 = .ok (.lconst 0, 1) := dt_Ref_writeGoes_c0 14
theorem d_Ref_writeGoes_17 : decode (jm_cod M_Ref_writeGoes) 17 = .ok (.aload_n 0, 1) := dt_Ref_writeGoes_c0 15
theorem d_Ref_writeGoes_18 : decode (jm_cod M_Ref_writeGoes) 18 = .ok (.getfield 97, 3) := dt_Ref_writeGoes_c0 16
theorem d_Ref_writeGoes_21 : decode (jm_cod M_Ref_writeGoes) 21 = .ok (.iload_n 3, 1) := dt_Ref_writeGoes_c0 17
theorem d_Ref_writeGoes_22 : decode (jm_cod M_Ref_writeGoes) 22 = .ok (.iconst 2, 1) := dt_Ref_writeGoes_c0 18
theorem d_Ref_writeGoes_23 : decode (jm_cod M_Ref_writeGoes) 23 = .ok (.iadd, 1) := dt_Ref_writeGoes_c0 19
theorem d_Ref_writeGoes_24 : decode (jm_cod M_Ref_writeGoes) 24 = .ok (.iaload, 1) := dt_Ref_writeGoes_c0 20
theorem d_Ref_writeGoes_25 : decode (jm_cod M_Ref_writeGoes) 25 = .ok (.aload_n 0, 1) := dt_Ref_writeGoes_c0 21
theorem d_Ref_writeGoes_26 : decode (jm_cod M_Ref_writeGoes) 26 = .ok (.getfield 348, 3) := dt_Ref_writeGoes_c0 22
theorem d_Ref_writeGoes_29 : decode (jm_cod M_Ref_writeGoes) 29 = .ok (.invokevirtual 469, 3) := dt_Ref_writeGoes_c0 23
def tab_Ref_writeGoes_c1 : List (Nat × Instr × Nat) := [(32, .iconst 0, 1), (33, .istore 4, 2), (35, .aload_n 0, 1), (36, .getfield 157, 3), (39, .iconst 4, 1), (40, .iload_n 1, 1), (41, .imul, 1), (42, .iload 4, 2), (44, .iadd, 1), (45, .iaload, 1), (46, .aload_n 0, 1), (47, .getfield 214, 3), (50, .iload_n 1, 1), (51, .iaload, 1), (52, .if_icmp .eq 9, 3), (55, .iinc 4 1, 3), (58, .goto (-23), 3), (61, .aload_n 0, 1), (62, .getfield 160, 3), (65, .aload_n 0, 1), (66, .getfield 214, 3), (69, .iload_n 1, 1), (70, .iaload, 1), (71, .iconst 0, 1)]
theorem dt_Ref_writeGoes_c1 (i : Nat) : decode (jm_cod M_Ref_writeGoes) (tab_Ref_writeGoes_c1.getD i (32, .iconst 0, 1)).1 = .ok ((tab_Ref_writeGoes_c1.getD i (32, .iconst 0, 1)).2.1, (tab_Ref_writeGoes_c1.getD i (32, .iconst 0, 1)).2.2) := j_tab (by decide +kernel) i
theorem d_Ref_writeGoes_32 : decode (jm_cod M_Ref_writeGoes) 32 = .ok (.iconst 0, 1) := dt_Ref_writeGoes_c1 0
theorem d_Ref_writeGoes_33 : decode (jm_cod M_Ref_writeGoes) 33 = .ok (.istore 4, 2) := dt_Ref_writeGoes_c1 1
theorem d_Ref_writeGoes_35 : decode (jm_cod M_Ref_writeGoes) 35 = .ok (.aload_n 0, 1) := dt_Ref_writeGoes_c1 2
theorem d_Ref_writeGoes_36 : decode (jm_cod M_Ref_writeGoes) 36 = .ok (.getfield 157, 3) := dt_Ref_writeGoes_c1 3
theorem d_Ref_writeGoes_39 : decode (jm_cod M_Ref_writeGoes) 39 = .ok (.iconst 4, 1) := dt_Ref_writeGoes_c1 4
theorem d_Ref_writeGoes_40 : decode (jm_cod M_Ref_writeGoes) 40 = .ok (.iload_n 1, 1) := dt_Ref_writeGoes_c1 5
theorem d_Ref_writeGoes_41 : decode (jm_cod M_Ref_writeGoes) 41 = .ok (.imul, 1) := dt_Ref_writeGoes_c1 6
theorem d_Ref_writeGoes_42 : decode (jm_cod M_Ref_writeGoes) 42 = .ok (.iload 4, 2) := dt_Ref_writeGoes_c1 7
theorem d_Ref_writeGoes_44 : decode (jm_cod M_Ref_writeGoes) 44 = .ok (.iadd, 1) := dt_Ref_writeGoes_c1 8
theorem d_Ref_writeGoes_45 : decode (jm_cod M_Ref_writeGoes) 45 = .ok (.iaload, 1) := dt_Ref_writeGoes_c1 9
theorem d_Ref_writeGoes_46 : decode (jm_cod M_Ref_writeGoes) 46 = .ok (.aload_n 0, 1) := dt_Ref_writeGoes_c1 10
theorem d_Ref_writeGoes_47 : decode (jm_cod M_Ref_writeGoes) 47 = .ok (.getfield 214, 3) := dt_Ref_writeGoes_c1 11
theorem d_Ref_writeGoes_50 : decode (jm_cod M_Ref_writeGoes) 50 = .ok (.iload_n 1, 1) := dt_Ref_writeGoes_c1 12
theorem d_Ref_writeGoes_51 : decode (jm_cod M_Ref_writeGoes) 51 = .ok (.iaload, 1) := dt_Ref_writeGoes_c1 13
theorem d_Ref_writeGoes_52 : decode (jm_cod M_Ref_writeGoes) 52 = .ok (.if_icmp .eq 9, 3) := dt_Ref_writeGoes_c1 14
theorem d_Ref_writeGoes_55 : decode (jm_cod M_Ref_writeGoes) 55 = .ok (.iinc 4 1, 3) := dt_Ref_writeGoes_c1 15
theorem d_Ref_writeGoes_58 : decode (jm_cod M_Ref_writeGoes) 58 = .ok (.goto (-23), 3) := dt_Ref_writeGoes_c1 16
theorem d_Ref_writeGoes_61 : decode (jm_cod M_Ref_writeGoes) 61 = .ok (.aload_n 0, 1) := dt_Ref_writeGoes_c1 17
theorem d_Ref_writeGoes_62 : decode (jm_cod M_Ref_writeGoes) 62 = .ok (.getfield 160, 3) := dt_Ref_writeGoes_c1 18
theorem d_Ref_writeGoes_65 : decode (jm_cod M_Ref_writeGoes) 65 = .ok (.aload_n 0, 1) := dt_Ref_writeGoes_c1 19
theorem d_Ref_writeGoes_66 : decode (jm_cod M_Ref_writeGoes) 66 = .ok (.getfield 214, 3) := dt_Ref_writeGoes_c1 20
theorem d_Ref_writeGoes_69 : decode (jm_cod M_Ref_writeGoes) 69 = .ok (.iload_n 1, 1) := dt_Ref_writeGoes_c1 21
theorem d_Ref_writeGoes_70 : decode (jm_cod M_Ref_writeGoes) 70 = .ok (.iaload, 1) := dt_Ref_writeGoes_c1 22
theorem d_Ref_writeGoes_71 : decode (jm_cod M_Ref_writeGoes) 71 = .ok (.iconst 0, 1) := dt_Ref_writeGoes_c1 23
def tab_Ref_writeGoes_c2 : List (Nat × Instr × Nat) := [(72, .bastore, 1), (73, .aload_n 0, 1), (74, .getfield 154, 3), (77, .iload_n 1, 1), (78, .dup2, 1), (79, .iaload, 1), (80, .iconst 1, 1), (81, .isub, 1), (82, .iastore, 1), (83, .iload 4, 2), (85, .istore 5, 2), (87, .iload 5, 2), (89, .aload_n 0, 1), (90, .getfield 154, 3), (93, .iload_n 1, 1), (94, .iaload, 1), (95, .if_icmp .ge 33, 3), (98, .aload_n 0, 1), (99, .getfield 157, 3), (102, .iconst 4, 1), (103, .iload_n 1, 1), (104, .imul, 1), (105, .iload 5, 2), (107, .iadd, 1)]
theorem dt_Ref_writeGoes_c2 (i : Nat) : decode (jm_cod M_Ref_writeGoes) (tab_Ref_writeGoes_c2.getD i (72, .bastore, 1)).1 = .ok ((tab_Ref_writeGoes_c2.getD i (72, .bastore, 1)).2.1, (tab_Ref_writeGoes_c2.getD i (72, .bastore, 1)).2.2) := j_tab (by decide +kernel) i
theorem d_Ref_writeGoes_72 : decode (jm_cod M_Ref_writeGoes) 72 = .ok (.bastore, 1) := dt_Ref_writeGoes_c2 0
theorem d_Ref_writeGoes_73 : decode (jm_cod M_Ref_writeGoes) 73 = .ok (.aload_n 0, 1) := dt_Ref_writeGoes_c2 1
theorem d_Ref_writeGoes_74 : decode (jm_cod M_Ref_writeGoes) 74 = .ok (.getfield 154, 3) := dt_Ref_writeGoes_c2 2
theorem d_Ref_writeGoes_77 : decode (jm_cod M_Ref_writeGoes) 77 = .ok (.iload_n 1, 1) := dt_Ref_writeGoes_c2 3
theorem d_Ref_writeGoes_78 : decode (jm_cod M_Ref_writeGoes) 78 = .ok (.dup2, 1) := dt_Ref_writeGoes_c2 4
theorem d_Ref_writeGoes_79 : decode (jm_cod M_Ref_writeGoes) 79 = .ok (.iaload, 1) := dt_Ref_writeGoes_c2 5
theorem d_Ref_writeGoes_80 : decode (jm_cod M_Ref_writeGoes) 80 = .ok (.iconst 1, 1) := dt_Ref_writeGoes_c2 6
theorem d_Ref_writeGoes_81 : decode (jm_cod M_Ref_writeGoes) 81 = .ok (.isub, 1) := dt_Ref_writeGoes_c2 7
theorem d_Ref_writeGoes_82 : decode (jm_cod M_Ref_writeGoes) 82 = .ok (.iastore, 1) := dt_Ref_writeGoes_c2 8
theorem d_Ref_writeGoes_83 : decode (jm_cod M_Ref_writeGoes) 83 = .ok (.iload 4, 2) := dt_Ref_writeGoes_c2 9
theorem d_Ref_writeGoes_85 : decode (jm_cod M_Ref_writeGoes) 85 = .ok (.istore 5, 2) := dt_Ref_writeGoes_c2 10
theorem d_Ref_writeGoes_87 : decode (jm_cod M_Ref_writeGoes) 87 = .ok (.iload 5, 2) := dt_Ref_writeGoes_c2 11
theorem d_Ref_writeGoes_89 : decode (jm_cod M_Ref_writeGoes) 89 = .ok (.aload_n 0, 1) := dt_Ref_writeGoes_c2 12
theorem d_Ref_writeGoes_90 : decode (jm_cod M_Ref_writeGoes) 90 = .ok (.getfield 154, 3) := dt_Ref_writeGoes_c2 13
theorem d_Ref_writeGoes_93 : decode (jm_cod M_Ref_writeGoes) 93 = .ok (.iload_n 1, 1) := dt_Ref_writeGoes_c2 14
theorem d_Ref_writeGoes_94 : decode (jm_cod M_Ref_writeGoes) 94 = .ok (.iaload, 1) := dt_Ref_writeGoes_c2 15
theorem d_Ref_writeGoes_95 : decode (jm_cod M_Ref_writeGoes) 95 = .ok (.if_icmp .ge 33, 3) := dt_Ref_writeGoes_c2 16
theorem d_Ref_writeGoes_98 : decode (jm_cod M_Ref_writeGoes) 98 = .ok (.aload_n 0, 1) := dt_Ref_writeGoes_c2 17
theorem d_Ref_writeGoes_99 : decode (jm_cod M_Ref_writeGoes) 99 = .ok (.getfield 157, 3) := dt_Ref_writeGoes_c2 18
theorem d_Ref_writeGoes_102 : decode (jm_cod M_Ref_writeGoes) 102 = .ok (.iconst 4, 1) := dt_Ref_writeGoes_c2 19
theorem d_Ref_writeGoes_103 : decode (jm_cod M_Ref_writeGoes) 103 = .ok (.iload_n 1, 1) := dt_Ref_writeGoes_c2 20
theorem d_Ref_writeGoes_104 : decode (jm_cod M_Ref_writeGoes) 104 = .ok (.imul, 1) := dt_Ref_writeGoes_c2 21
theorem d_Ref_writeGoes_105 : decode (jm_cod M_Ref_writeGoes) 105 = .ok (.iload 5, 2) := dt_Ref_writeGoes_c2 22
theorem d_Ref_writeGoes_107 : decode (jm_cod M_Ref_writeGoes) 107 = .ok (.iadd, 1) := dt_Ref_writeGoes_c2 23
def tab_Ref_writeGoes_c3 : List (Nat × Instr × Nat) := [(108, .aload_n 0, 1), (109, .getfield 157, 3), (112, .iconst 4, 1), (113, .iload_n 1, 1), (114, .imul, 1), (115, .iload 5, 2), (117, .iadd, 1), (118, .iconst 1, 1), (119, .iadd, 1), (120, .iaload, 1), (121, .iastore, 1), (122, .iinc 5 1, 3), (125, .goto (-38), 3), (128, .return_, 1)]
theorem dt_Ref_writeGoes_c3 (i : Nat) : decode (jm_cod M_Ref_writeGoes) (tab_Ref_writeGoes_c3.getD i (108, .aload_n 0, 1)).1 = .ok ((tab_Ref_writeGoes_c3.getD i (108, .aload_n 0, 1)).2.1, (tab_Ref_writeGoes_c3.getD i (108, .aload_n 0, 1)).2.2) := j_tab (by decide +kernel) i
theorem d_Ref_writeGoes_108 : decode (jm_cod M_Ref_writeGoes) 108 = .ok (.aload_n 0, 1) := dt_Ref_writeGoes_c3 0
theorem d_Ref_writeGoes_109 : decode (jm_cod M_Ref_writeGoes) 109 = .ok (.getfield 157, 3) := dt_Ref_writeGoes_c3 1
theorem d_Ref_writeGoes_112 : decode (jm_cod M_Ref_writeGoes) 112 = .ok (.iconst 4, 1) := dt_Ref_writeGoes_c3 2
theorem d_Ref_writeGoes_113 : decode (jm_cod M_Ref_writeGoes) 113 = .ok (.iload_n 1, 1) := dt_Ref_writeGoes_c3 3
theorem d_Ref_writeGoes_114 : decode (jm_cod M_Ref_writeGoes) 114 = .ok (.imul, 1) := dt_Ref_writeGoes_c3 4
theorem d_Ref_writeGoes_115 : decode (jm_cod M_Ref_writeGoes) 115 = .ok (.iload 5, 2) := dt_Ref_writeGoes_c3 5
theorem d_Ref_writeGoes_117 : decode (jm_cod M_Ref_writeGoes) 117 = .ok (.iadd, 1) := dt_Ref_writeGoes_c3 6
theorem d_Ref_writeGoes_118 : decode (jm_cod M_Ref_writeGoes) 118 = .ok (.iconst 1, 1) := dt_Ref_writeGoes_c3 7
theorem d_Ref_writeGoes_119 : decode (jm_cod M_Ref_writeGoes) 119 = .ok (.iadd, 1) := dt_Ref_writeGoes_c3 8
theorem d_Ref_writeGoes_120 : decode (jm_cod M_Ref_writeGoes) 120 = .ok (.iaload, 1) := dt_Ref_writeGoes_c3 9
theorem d_Ref_writeGoes_121 : decode (jm_cod M_Ref_writeGoes) 121 = .ok (.iastore, 1) := dt_Ref_writeGoes_c3 10
theorem d_Ref_writeGoes_122 : decode (jm_cod M_Ref_writeGoes) 122 = .ok (.iinc 5 1, 3) := dt_Ref_writeGoes_c3 11
theorem d_Ref_writeGoes_125 : decode (jm_cod M_Ref_writeGoes) 125 = .ok (.goto (-38), 3) := dt_Ref_writeGoes_c3 12
theorem d_Ref_writeGoes_128 : decode (jm_cod M_Ref_writeGoes) 128 = .ok (.return_, 1) := dt_Ref_writeGoes_c3 13
def tab_Ref_readGoes_c0 : List (Nat × Instr × Nat) := [(0, .iconst 5, 1), (1, .iconst 4, 1), (2, .iload_n 1, 1), (3, .iadd, 1), (4, .imul, 1), (5, .istore_n 2, 1), (6, .aload_n 0, 1), (7, .aload_n 0, 1), (8, .iconst 1, 1), (9, .iload_n 1, 1), (10, .iconst 4, 1), (11, .invokevirtual 388, 3), (14, .aload_n 0, 1), (15, .getfield 94, 3), (18, .iload_n 2, 1), (19, .iconst 4, 1), (20, .iadd, 1), (21, .laload, 1), (22, .aload_n 0, 1), (23, .getfield 97, 3), (26, .iload_n 2, 1), (27, .iconst 4, 1), (28, .iadd, 1), (29, .iaload, 1)]
theorem dt_Ref_readGoes_c0 (i : Nat) : decode (jm_cod M_Ref_readGoes) (tab_Ref_readGoes_c0.getD i (0, .iconst 5, 1)).1 = .ok ((tab_Ref_readGoes_c0.getD i (0, .iconst 5, 1)).2.1, (tab_Ref_readGoes_c0.getD i (0, .iconst 5, 1)).2.2) := j_tab (by decide +kernel) i
theorem d_Ref_readGoes_0 : decode (jm_cod M_Ref_readGoes) 0 = .ok (.iconst 5, 1) := dt_Ref_readGoes_c0 0
theorem d_Ref_readGoes_1 : decode (jm_cod M_Ref_readGoes) 1 = .ok (.iconst 4, 1) := dt_Ref_readGoes_c0 1
theorem d_Ref_readGoes_2 : decode (jm_cod M_Ref_readGoes) 2 = .ok (.iload_n 1, 1) := dt_Ref_readGoes_c0 2
theorem d_Ref_readGoes_3 : decode (jm_cod M_Ref_readGoes) 3 = .ok (.iadd, 1) := dt_Ref_readGoes_c0 3
theorem d_Ref_readGoes_4 : decode (jm_cod M_Ref_readGoes) 4 = .ok (.imul, 1) := dt_Ref_readGoes_c0 4
theorem d_Ref_readGoes_5 : decode (jm_cod M_Ref_readGoes) 5 = .ok (.istore_n 2, 1) := dt_Ref_readGoes_c0 5
theorem d_Ref_readGoes_6 : decode (jm_cod M_Ref_readGoes) 6 = .ok (.aload_n 0, 1) := dt_Ref_readGoes_c0 6
theorem d_Ref_readGoes_7 : decode (jm_cod M_Ref_readGoes) 7 = .ok (.aload_n 0, 1) := dt_Ref_readGoes_c0 7
theorem d_Ref_readGoes_8 : decode (jm_cod M_Ref_readGoes) 8 = .ok (.iconst 1, 1) := dt_Ref_readGoes_c0 8
theorem d_Ref_readGoes_9 : decode (jm_cod M_Ref_readGoes) 9 = .ok (.iload_n 1, 1) := dt_Ref_readGoes_c0 9
theorem d_Ref_readGoes_10 : decode (jm_cod M_Ref_readGoes) 10 = .ok (.iconst 4, 1) := dt_Ref_readGoes_c0 10
theorem d_Ref_readGoes_11 : decode (jm_cod M_Ref_readGoes) 11 = .ok (.invokevirtual 388, 3) := dt_Ref_readGoes_c0 11
theorem d_Ref_readGoes_14 : decode (jm_cod M_Ref_readGoes) 14 = .ok (.aload_n 0, 1) := dt_Ref_readGoes_c0 12
theorem d_Ref_readGoes_15 : decode (jm_cod M_Ref_readGoes) 15 = .ok (.getfield 94, 3) := dt_Ref_readGoes_c0 13
theorem d_Ref_readGoes_18 : decode (jm_cod M_Ref_readGoes) 18 = .ok (.iload_n 2, 1) := dt_Ref_readGoes_c0 14
theorem d_Ref_readGoes_19 : decode (jm_cod M_Ref_readGoes) 19 = .ok (.iconst 4, 1) := dt_Ref_readGoes_c0 15
theorem d_Ref_readGoes_20 : decode (jm_cod M_Ref_readGoes) 20 = .ok (.iadd, 1) := dt_Ref_readGoes_c0 16
theorem d_Ref_readGoes_21 : decode (jm_cod M_Ref_readGoes) 21 = .ok (.laload, 1) := dt_Ref_readGoes_c0 17
theorem d_Ref_readGoes_22 : decode (jm_cod M_Ref_readGoes) 22 = .ok (.aload_n 0, 1) := dt_Ref_readGoes_c0 18
theorem d_Ref_readGoes_23 : decode (jm_cod M_Ref_readGoes) 23 = .ok (.getfield 97, 3) := dt_Ref_readGoes_c0 19
theorem d_Ref_readGoes_26 : decode (jm_cod M_Ref_readGoes) 26 = .ok (.iload_n 2, 1) := dt_Ref_readGoes_c0 20
theorem d_Ref_readGoes_27 : decode (jm_cod M_Ref_readGoes) 27 = .ok (.iconst 4, 1) := dt_Ref_readGoes_c0 21
theorem d_Ref_readGoes_28 : decode (jm_cod M_Ref_readGoes) 28 = .ok (.iadd, 1) := dt_Ref_readGoes_c0 22
theorem d_Ref_readGoes_29 : decode (jm_cod M_Ref_readGoes) 29 = .ok (.iaload, 1) := dt_Ref_readGoes_c0 23
def tab_Ref_readGoes_c1 : List (Nat × Instr × Nat) := [(30, .aload_n 0, 1), (31, .getfield 348, 3), (34, .invokevirtual 469, 3), (37, .aload_n 0, 1), (38, .getfield 217, 3), (41, .iload_n 1, 1), (42, .iaload, 1), (43, .istore_n 3, 1), (44, .aload_n 0, 1), (45, .getfield 211, 3), (48, .iload_n 1, 1), (49, .aload_n 0, 1), (50, .getfield 199, 3), (53, .iload_n 3, 1), (54, .iaload, 1), (55, .iastore, 1), (56, .aload_n 0, 1), (57, .getfield 193, 3), (60, .iload_n 3, 1), (61, .dup2, 1), (62, .iaload, 1), (63, .iconst 1, 1), (64, .iadd, 1), (65, .iastore, 1)]
theorem dt_Ref_readGoes_c1 (i : Nat) : decode (jm_cod M_Ref_readGoes) (tab_Ref_readGoes_c1.getD i (30, .aload_n 0, 1)).1 = .ok ((tab_Ref_readGoes_c1.getD i (30, .aload_n 0, 1)).2.1, (tab_Ref_readGoes_c1.getD i (30, .aload_n 0, 1)).2.2) := j_tab (by decide +kernel) i
theorem d_Ref_readGoes_30 : decode (jm_cod M_Ref_readGoes) 30 = .ok (.aload_n 0, 1) := dt_Ref_readGoes_c1 0
theorem d_Ref_readGoes_31 : decode (jm_cod M_Ref_readGoes) 31 = .ok (.getfield 348, 3) := dt_Ref_readGoes_c1 1
theorem d_Ref_readGoes_34 : decode (jm_cod M_Ref_readGoes) 34 = .ok (.invokevirtual 469, 3) := dt_Ref_readGoes_c1 2
theorem d_Ref_readGoes_37 : decode (jm_cod M_Ref_readGoes) 37 = .ok (.aload_n 0, 1) := dt_Ref_readGoes_c1 3
theorem d_Ref_readGoes_38 : decode (jm_cod M_Ref_readGoes) 38 = .ok (.getfield 217, 3) := dt_Ref_readGoes_c1 4
theorem d_Ref_readGoes_41 : decode (jm_cod M_Ref_readGoes) 41 = .ok (.iload_n 1, 1) := dt_Ref_readGoes_c1 5
theorem d_Ref_readGoes_42 : decode (jm_cod M_Ref_readGoes) 42 = .ok (.iaload, 1) := dt_Ref_readGoes_c1 6
theorem d_Ref_readGoes_43 : decode (jm_cod M_Ref_readGoes) 43 = .ok (.istore_n 3, 1) := dt_Ref_readGoes_c1 7
theorem d_Ref_readGoes_44 : decode (jm_cod M_Ref_readGoes) 44 = .ok (.aload_n 0, 1) := dt_Ref_readGoes_c1 8
theorem d_Ref_readGoes_45 : decode (jm_cod M_Ref_readGoes) 45 = .ok (.getfield 211, 3) := dt_Ref_readGoes_c1 9
theorem d_Ref_readGoes_48 : decode (jm_cod M_Ref_readGoes) 48 = .ok (.iload_n 1, 1) := dt_Ref_readGoes_c1 10
theorem d_Ref_readGoes_49 : decode (jm_cod M_Ref_readGoes) 49 = .ok (.aload_n 0, 1) := dt_Ref_readGoes_c1 11
theorem d_Ref_readGoes_50 : decode (jm_cod M_Ref_readGoes) 50 = .ok (.getfield 199, 3) := dt_Ref_readGoes_c1 12
theorem d_Ref_readGoes_53 : decode (jm_cod M_Ref_readGoes) 53 = .ok (.iload_n 3, 1) := dt_Ref_readGoes_c1 13
theorem d_Ref_readGoes_54 : decode (jm_cod M_Ref_readGoes) 54 = .ok (.iaload, 1) := dt_Ref_readGoes_c1 14
theorem d_Ref_readGoes_55 : decode (jm_cod M_Ref_readGoes) 55 = .ok (.iastore, 1) := dt_Ref_readGoes_c1 15
theorem d_Ref_readGoes_56 : decode (jm_cod M_Ref_readGoes) 56 = .ok (.aload_n 0, 1) := dt_Ref_readGoes_c1 16
theorem d_Ref_readGoes_57 : decode (jm_cod M_Ref_readGoes) 57 = .ok (.getfield 193, 3) := dt_Ref_readGoes_c1 17
theorem d_Ref_readGoes_60 : decode (jm_cod M_Ref_readGoes) 60 = .ok (.iload_n 3, 1) := dt_Ref_readGoes_c1 18
theorem d_Ref_readGoes_61 : decode (jm_cod M_Ref_readGoes) 61 = .ok (.dup2, 1) := dt_Ref_readGoes_c1 19
theorem d_Ref_readGoes_62 : decode (jm_cod M_Ref_readGoes) 62 = .ok (.iaload, 1) := dt_Ref_readGoes_c1 20
theorem d_Ref_readGoes_63 : decode (jm_cod M_Ref_readGoes) 63 = .ok (.iconst 1, 1) := dt_Ref_readGoes_c1 21
theorem d_Ref_readGoes_64 : decode (jm_cod M_Ref_readGoes) 64 = .ok (.iadd, 1) := dt_Ref_readGoes_c1 22
theorem d_Ref_readGoes_65 : decode (jm_cod M_Ref_readGoes) 65 = .ok (.iastore, 1) := dt_Ref_readGoes_c1 23
def tab_Ref_readGoes_c2 : List (Nat × Instr × Nat) := [(66, .aload_n 0, 1), (67, .getfield 97, 3), (70, .iload_n 2, 1), (71, .iconst 4, 1), (72, .iadd, 1), (73, .iaload, 1), (74, .sipush 256, 3), (77, .iand, 1), (78, .ifCond .ne 4, 3), (81, .return_, 1), (82, .iconst 0, 1), (83, .istore 4, 2), (85, .aload_n 0, 1), (86, .getfield 184, 3), (89, .iconst 4, 1), (90, .iload_n 1, 1), (91, .imul, 1), (92, .iload 4, 2), (94, .iadd, 1), (95, .iaload, 1), (96, .iload_n 3, 1), (97, .if_icmp .eq 9, 3), (100, .iinc 4 1, 3), (103, .goto (-18), 3)]
theorem dt_Ref_readGoes_c2 (i : Nat) : decode (jm_cod M_Ref_readGoes) (tab_Ref_readGoes_c2.getD i (66, .aload_n 0, 1)).1 = .ok ((tab_Ref_readGoes_c2.getD i (66, .aload_n 0, 1)).2.1, (tab_Ref_readGoes_c2.getD i (66, .aload_n 0, 1)).2.2) := j_tab (by decide +kernel) i
theorem d_Ref_readGoes_66 : decode (jm_cod M_Ref_readGoes) 66 = .ok (.aload_n 0, 1) := dt_Ref_readGoes_c2 0
theorem d_Ref_readGoes_67 : decode (jm_cod M_Ref_readGoes) 67 = .ok (.getfield 97, 3) := dt_Ref_readGoes_c2 1
theorem d_Ref_readGoes_70 : decode (jm_cod M_Ref_readGoes) 70 = .ok (.iload_n 2, 1) := dt_Ref_readGoes_c2 2
theorem d_Ref_readGoes_71 : decode (jm_cod M_Ref_readGoes) 71 = .ok (.iconst 4, 1) := dt_Ref_readGoes_c2 3
theorem d_Ref_readGoes_72 : decode (jm_cod M_Ref_readGoes) 72 = .ok (.iadd, 1) := dt_Ref_readGoes_c2 4
theorem d_Ref_readGoes_73 : decode (jm_cod M_Ref_readGoes) 73 = .ok (.iaload, 1) := dt_Ref_readGoes_c2 5
theorem d_Ref_readGoes_74 : decode (jm_cod M_Ref_readGoes) 74 = .ok (.sipush 256, 3) := dt_Ref_readGoes_c2 6
theorem d_Ref_readGoes_77 : decode (jm_cod M_Ref_readGoes) 77 = .ok (.iand, 1) := dt_Ref_readGoes_c2 7
theorem d_Ref_readGoes_78 : decode (jm_cod M_Ref_readGoes) 78 = .ok (.ifCond .ne 4, 3) := dt_Ref_readGoes_c2 8
theorem d_Ref_readGoes_81 : decode (jm_cod M_Ref_readGoes) 81 = .ok (.return_, 1) := dt_Ref_readGoes_c2 9
theorem d_Ref_readGoes_82 : decode (jm_cod M_Ref_readGoes) 82 = .ok (.iconst 0, 1) := dt_Ref_readGoes_c2 10
theorem d_Ref_readGoes_83 : decode (jm_cod M_Ref_readGoes) 83 = .ok (.istore 4, 2) := dt_Ref_readGoes_c2 11
theorem d_Ref_readGoes_85 : decode (jm_cod M_Ref_readGoes) 85 = .ok (.aload_n 0, 1) := dt_Ref_readGoes_c2 12
theorem d_Ref_readGoes_86 : decode (jm_cod M_Ref_readGoes) 86 = .ok (.getfield 184, 3) := dt_Ref_readGoes_c2 13
theorem d_Ref_readGoes_89 : decode (jm_cod M_Ref_readGoes) 89 = .ok (.iconst 4, 1) := dt_Ref_readGoes_c2 14
theorem d_Ref_readGoes_90 : decode (jm_cod M_Ref_readGoes) 90 = .ok (.iload_n 1, 1) := dt_Ref_readGoes_c2 15
theorem d_Ref_readGoes_91 : decode (jm_cod M_Ref_readGoes) 91 = .ok (.imul, 1) := dt_Ref_readGoes_c2 16
theorem d_Ref_readGoes_92 : decode (jm_cod M_Ref_readGoes) 92 = .ok (.iload 4, 2) := dt_Ref_readGoes_c2 17
theorem d_Ref_readGoes_94 : decode (jm_cod M_Ref_readGoes) 94 = .ok (.iadd, 1) := dt_Ref_readGoes_c2 18
theorem d_Ref_readGoes_95 : decode (jm_cod M_Ref_readGoes) 95 = .ok (.iaload, 1) := dt_Ref_readGoes_c2 19
theorem d_Ref_readGoes_96 : decode (jm_cod M_Ref_readGoes) 96 = .ok (.iload_n 3, 1) := dt_Ref_readGoes_c2 20
theorem d_Ref_readGoes_97 : decode (jm_cod M_Ref_readGoes) 97 = .ok (.if_icmp .eq 9, 3) := dt_Ref_readGoes_c2 21
theorem d_Ref_readGoes_100 : decode (jm_cod M_Ref_readGoes) 100 = .ok (.iinc 4 1, 3) := dt_Ref_readGoes_c2 22
theorem d_Ref_readGoes_103 : decode (jm_cod M_Ref_readGoes) 103 = .ok (.goto (-18), 3) := dt_Ref_readGoes_c2 23
def tab_Ref_readGoes_c3 : List (Nat × Instr × Nat) := [(106, .aload_n 0, 1), (107, .getfield 187, 3), (110, .iload_n 3, 1), (111, .iconst 0, 1), (112, .bastore, 1), (113, .aload_n 0, 1), (114, .getfield 181, 3), (117, .iload_n 1, 1), (118, .dup2, 1), (119, .iaload, 1), (120, .iconst 1, 1), (121, .isub, 1), (122, .iastore, 1), (123, .iload 4, 2), (125, .istore 5, 2), (127, .iload 5, 2), (129, .aload_n 0, 1), (130, .getfield 181, 3), (133, .iload_n 1, 1), (134, .iaload, 1), (135, .if_icmp .ge 33, 3), (138, .aload_n 0, 1), (139, .getfield 184, 3), (142, .iconst 4, 1)]
theorem dt_Ref_readGoes_c3 (i : Nat) : decode (jm_cod M_Ref_readGoes) (tab_Ref_readGoes_c3.getD i (106, .aload_n 0, 1)).1 = .ok ((tab_Ref_readGoes_c3.getD i (106, .aload_n 0, 1)).2.1, (tab_Ref_readGoes_c3.getD i (106, .aload_n 0, 1)).2.2) := j_tab (by decide +kernel) i
theorem d_Ref_readGoes_106 : decode (jm_cod M_Ref_readGoes) 106 = .ok (.aload_n 0, 1) := dt_Ref_readGoes_c3 0
theorem d_Ref_readGoes_107 : decode (jm_cod M_Ref_readGoes) 107 = .ok (.getfield 187, 3) := dt_Ref_readGoes_c3 1
theorem d_Ref_readGoes_110 : decode (jm_cod M_Ref_readGoes) 110 = .ok (.iload_n 3, 1) := dt_Ref_readGoes_c3 2
theorem d_Ref_readGoes_111 : decode (jm_cod M_Ref_readGoes) 111 = .ok (.iconst 0, 1) := dt_Ref_readGoes_c3 3
theorem d_Ref_readGoes_112 : decode (jm_cod M_Ref_readGoes) 112 = .ok (.bastore, 1) := dt_Ref_readGoes_c3 4
theorem d_Ref_readGoes_113 : decode (jm_cod M_Ref_readGoes) 113 = .ok (.aload_n 0, 1) := dt_Ref_readGoes_c3 5
theorem d_Ref_readGoes_114 : decode (jm_cod M_Ref_readGoes) 114 = .ok (.getfield 181, 3) := dt_Ref_readGoes_c3 6
theorem d_Ref_readGoes_117 : decode (jm_cod M_Ref_readGoes) 117 = .ok (.iload_n 1, 1) := dt_Ref_readGoes_c3 7
theorem d_Ref_readGoes_118 : decode (jm_cod M_Ref_readGoes) 118 = .ok (.dup2, 1) := dt_Ref_readGoes_c3 8
theorem d_Ref_readGoes_119 : decode (jm_cod M_Ref_readGoes) 119 = .ok (.iaload, 1) := dt_Ref_readGoes_c3 9
theorem d_Ref_readGoes_120 : decode (jm_cod M_Ref_readGoes) 120 = .ok (.iconst 1, 1) := dt_Ref_readGoes_c3 10
theorem d_Ref_readGoes_121 : decode (jm_cod M_Ref_readGoes) 121 = .ok (.isub, 1) := dt_Ref_readGoes_c3 11
theorem d_Ref_readGoes_122 : decode (jm_cod M_Ref_readGoes) 122 = .ok (.iastore, 1) := dt_Ref_readGoes_c3 12
theorem d_Ref_readGoes_123 : decode (jm_cod M_Ref_readGoes) 123 = .ok (.iload 4, 2) := dt_Ref_readGoes_c3 13
theorem d_Ref_readGoes_125 : decode (jm_cod M_Ref_readGoes) 125 = .ok (.istore 5, 2) := dt_Ref_readGoes_c3 14
theorem d_Ref_readGoes_127 : decode (jm_cod M_Ref_readGoes) 127 = .ok (.iload 5, 2) := dt_Ref_readGoes_c3 15
theorem d_Ref_readGoes_129 : decode (jm_cod M_Ref_readGoes) 129 = .ok (.aload_n 0, 1) := dt_Ref_readGoes_c3 16
theorem d_Ref_readGoes_130 : decode (jm_cod M_Ref_readGoes) 130 = .ok (.getfield 181, 3) := dt_Ref_readGoes_c3 17
theorem d_Ref_readGoes_133 : decode (jm_cod M_Ref_readGoes) 133 = .ok (.iload_n 1, 1) := dt_Ref_readGoes_c3 18
theorem d_Ref_readGoes_134 : decode (jm_cod M_Ref_readGoes) 134 = .ok (.iaload, 1) := dt_Ref_readGoes_c3 19
theorem d_Ref_readGoes_135 : decode (jm_cod M_Ref_readGoes) 135 = .ok (.if_icmp .ge 33, 3) := dt_Ref_readGoes_c3 20
theorem d_Ref_readGoes_138 : decode (jm_cod M_Ref_readGoes) 138 = .ok (.aload_n 0, 1) := dt_Ref_readGoes_c3 21
theorem d_Ref_readGoes_139 : decode (jm_cod M_Ref_readGoes) 139 = .ok (.getfield 184, 3) := dt_Ref_readGoes_c3 22
theorem d_Ref_readGoes_142 : decode (jm_cod M_Ref_readGoes) 142 = .ok (.iconst 4, 1) := dt_Ref_readGoes_c3 23
def tab_Ref_readGoes_c4 : List (Nat × Instr × Nat) := [(143, .iload_n 1, 1), (144, .imul, 1), (145, .iload 5, 2), (147, .iadd, 1), (148, .aload_n 0, 1), (149, .getfield 184, 3), (152, .iconst 4, 1), (153, .iload_n 1, 1), (154, .imul, 1), (155, .iload 5, 2), (157, .iadd, 1), (158, .iconst 1, 1), (159, .iadd, 1), (160, .iaload, 1), (161, .iastore, 1), (162, .iinc 5 1, 3), (165, .goto (-38), 3), (168, .return_, 1)]
theorem dt_Ref_readGoes_c4 (i : Nat) : decode (jm_cod M_Ref_readGoes) (tab_Ref_readGoes_c4.getD i (143, .iload_n 1, 1)).1 = .ok ((tab_Ref_readGoes_c4.getD i (143, .iload_n 1, 1)).2.1, (tab_Ref_readGoes_c4.getD i (143, .iload_n 1, 1)).2.2) := j_tab (by decide +kernel) i
theorem d_Ref_readGoes_143 : decode (jm_cod M_Ref_readGoes) 143 = .ok (.iload_n 1, 1) := dt_Ref_readGoes_c4 0
theorem d_Ref_readGoes_144 : decode (jm_cod M_Ref_readGoes) 144 = .ok (.imul, 1) := dt_Ref_readGoes_c4 1
theorem d_Ref_readGoes_145 : decode (jm_cod M_Ref_readGoes) 145 = .ok (.iload 5, 2) := dt_Ref_readGoes_c4 2
theorem d_Ref_readGoes_147 : decode (jm_cod M_Ref_readGoes) 147 = .ok (.iadd, 1) := dt_Ref_readGoes_c4 3
theorem d_Ref_readGoes_148 : decode (jm_cod M_Ref_readGoes) 148 = .ok (.aload_n 0, 1) := dt_Ref_readGoes_c4 4
theorem d_Ref_readGoes_149 : decode (jm_cod M_Ref_readGoes) 149 = .ok (.getfield 184, 3) := dt_Ref_readGoes_c4 5
theorem d_Ref_readGoes_152 : decode (jm_cod M_Ref_readGoes) 152 = .ok (.iconst 4, 1) := dt_Ref_readGoes_c4 6
theorem d_Ref_readGoes_153 : decode (jm_cod M_Ref_readGoes) 153 = .ok (.iload_n 1, 1) := dt_Ref_readGoes_c4 7
theorem d_Ref_readGoes_154 : decode (jm_cod M_Ref_readGoes) 154 = .ok (.imul, 1) := dt_Ref_readGoes_c4 8
theorem d_Ref_readGoes_155 : decode (jm_cod M_Ref_readGoes) 155 = .ok (.iload 5, 2) := dt_Ref_readGoes_c4 9
theorem d_Ref_readGoes_157 : decode (jm_cod M_Ref_readGoes) 157 = .ok (.iadd, 1) := dt_Ref_readGoes_c4 10
theorem d_Ref_readGoes_158 : decode (jm_cod M_Ref_readGoes) 158 = .ok (.iconst 1, 1) := dt_Ref_readGoes_c4 11
theorem d_Ref_readGoes_159 : decode (jm_cod M_Ref_readGoes) 159 = .ok (.iadd, 1) := dt_Ref_readGoes_c4 12
theorem d_Ref_readGoes_160 : decode (jm_cod M_Ref_readGoes) 160 = .ok (.iaload, 1) := dt_Ref_readGoes_c4 13
theorem d_Ref_readGoes_161 : decode (jm_cod M_Ref_readGoes) 161 = .ok (.iastore, 1) := dt_Ref_readGoes_c4 14
theorem d_Ref_readGoes_162 : decode (jm_cod M_Ref_readGoes) 162 = .ok (.iinc 5 1, 3) := dt_Ref_readGoes_c4 15
theorem d_Ref_readGoes_165 : decode (jm_cod M_Ref_readGoes) 165 = .ok (.goto (-38), 3) := dt_Ref_readGoes_c4 16
theorem d_Ref_readGoes_168 : decode (jm_cod M_Ref_readGoes) 168 = .ok (.return_, 1) := dt_Ref_readGoes_c4 17
def tab_Ref_writeCame_c0 : List (Nat × Instr × Nat) := [(0, .aload_n 0, 1), (1, .getfield 160, 3), (4, .iload_n 1, 1), (5, .invokestatic 480, 3), (8, .istore 4, 2), (10, .aload_n 0, 1), (11, .getfield 160, 3), (14, .iload 4, 2), (16, .iconst 1, 1), (17, .bastore, 1), (18, .aload_n 0, 1), (19, .getfield 157, 3), (22, .iconst 4, 1), (23, .iload_n 1, 1), (24, .imul, 1), (25, .aload_n 0, 1), (26, .getfield 154, 3), (29, .iload_n 1, 1), (30, .iaload, 1), (31, .iadd, 1), (32, .iload 4, 2), (34, .iastore, 1), (35, .aload_n 0, 1), (36, .getfield 154, 3)]
theorem dt_Ref_writeCame_c0 (i : Nat) : decode (jm_cod M_Ref_writeCame) (tab_Ref_writeCame_c0.getD i (0, .aload_n 0, 1)).1 = .ok ((tab_Ref_writeCame_c0.getD i (0, .aload_n 0, 1)).2.1, (tab_Ref_writeCame_c0.getD i (0, .aload_n 0, 1)).2.2) := j_tab (by decide +kernel) i
theorem d_Ref_writeCame_0 : decode (jm_cod M_Ref_writeCame) 0 = .ok (.aload_n 0, 1) := dt_Ref_writeCame_c0 0
theorem d_Ref_writeCame_1 : decode (jm_cod M_Ref_writeCame) 1 = .ok (.getfield 160, 3) := dt_Ref_writeCame_c0 1
theorem d_Ref_writeCame_4 : decode (jm_cod M_Ref_writeCame) 4 = .ok (.iload_n 1, 1) := dt_Ref_writeCame_c0 2
theorem d_Ref_writeCame_5 : decode (jm_cod M_Ref_writeCame) 5 = .ok (.invokestatic 480, 3) := dt_Ref_writeCame_c0 3
theorem d_Ref_writeCame_8 : decode (jm_cod M_Ref_writeCame) 8 = .ok (.istore 4, 2) := dt_Ref_writeCame_c0 4
theorem d_Ref_writeCame_10 : decode (jm_cod M_Ref_writeCame) 10 = .ok (.aload_n 0, 1) := dt_Ref_writeCame_c0 5
theorem d_Ref_writeCame_11 : decode (jm_cod M_Ref_writeCame) 11 = .ok (.getfield 160, 3) := dt_Ref_writeCame_c0 6
theorem d_Ref_writeCame_14 : decode (jm_cod M_Ref_writeCame) 14 = .ok (.iload 4, 2) := dt_Ref_writeCame_c0 7
theorem d_Ref_writeCame_16 : decode (jm_cod M_Ref_writeCame) 16 = .ok (.iconst 1, 1) := dt_Ref_writeCame_c0 8
theorem d_Ref_writeCame_17 : decode (jm_cod M_Ref_writeCame) 17 = .ok (.bastore, 1) := dt_Ref_writeCame_c0 9
theorem d_Ref_writeCame_18 : decode (jm_cod M_Ref_writeCame) 18 = .ok (.aload_n 0, 1) := dt_Ref_writeCame_c0 10
theorem d_Ref_writeCame_19 : decode (jm_cod M_Ref_writeCame) 19 = .ok (.getfield 157, 3) := dt_Ref_writeCame_c0 11
theorem d_Ref_writeCame_22 : decode (jm_cod M_Ref_writeCame) 22 = .ok (.iconst 4, 1) := dt_Ref_writeCame_c0 12
theorem d_Ref_writeCame_23 : decode (jm_cod M_Ref_writeCame) 23 = .ok (.iload_n 1, 1) := dt_Ref_writeCame_c0 13
theorem d_Ref_writeCame_24 : decode (jm_cod M_Ref_writeCame) 24 = .ok (.imul, 1) := dt_Ref_writeCame_c0 14
theorem d_Ref_writeCame_25 : decode (jm_cod M_Ref_writeCame) 25 = .ok (.aload_n 0, 1) := dt_Ref_writeCame_c0 15
theorem d_Ref_writeCame_26 : decode (jm_cod M_Ref_writeCame) 26 = .ok (.getfield 154, 3) := dt_Ref_writeCame_c0 16
theorem d_Ref_writeCame_29 : decode (jm_cod M_Ref_writeCame) 29 = .ok (.iload_n 1, 1) := dt_Ref_writeCame_c0 17
theorem d_Ref_writeCame_30 : decode (jm_cod M_Ref_writeCame) 30 = .ok (.iaload, 1) := dt_Ref_writeCame_c0 18
theorem d_Ref_writeCame_31 : decode (jm_cod M_Ref_writeCame) 31 = .ok (.iadd, 1) := dt_Ref_writeCame_c0 19
theorem d_Ref_writeCame_32 : decode (jm_cod M_Ref_writeCame) 32 = .ok (.iload 4, 2) := dt_Ref_writeCame_c0 20
theorem d_Ref_writeCame_34 : decode (jm_cod M_Ref_writeCame) 34 = .ok (.iastore, 1) := dt_Ref_writeCame_c0 21
theorem d_Ref_writeCame_35 : decode (jm_cod M_Ref_writeCame) 35 = .ok (.aload_n 0, 1) := dt_Ref_writeCame_c0 22
theorem d_Ref_writeCame_36 : decode (jm_cod M_Ref_writeCame) 36 = .ok (.getfield 154, 3) := dt_Ref_writeCame_c0 23
def tab_Ref_writeCame_c1 : List (Nat × Instr × Nat) := [(39, .iload_n 1, 1), (40, .dup2, 1), (41, .iaload, 1), (42, .iconst 1, 1), (43, .iadd, 1), (44, .iastore, 1), (45, .aload_n 0, 1), (46, .getfield 163, 3), (49, .iload 4, 2), (51, .lload_n 2, 1), (52, .lastore, 1), (53, .aload_n 0, 1), (54, .getfield 166, 3), (57, .iload 4, 2), (59, .iconst 0, 1), (60, .iastore, 1), (61, .aload_n 0, 1), (62, .getfield 169, 3), (65, .iload 4, 2), (67, .iconst (-1), 1), (68, .iastore, 1), (69, .return_, 1)]
theorem dt_Ref_writeCame_c1 (i : Nat) : decode (jm_cod M_Ref_writeCame) (tab_Ref_writeCame_c1.getD i (39, .iload_n 1, 1)).1 = .ok ((tab_Ref_writeCame_c1.getD i (39, .iload_n 1, 1)).2.1, (tab_Ref_writeCame_c1.getD i (39, .iload_n 1, 1)).2.2) := j_tab (by decide +kernel) i
theorem d_Ref_writeCame_39 : decode (jm_cod M_Ref_writeCame) 39 = .ok (.iload_n 1, 1) := dt_Ref_writeCame_c1 0
theorem d_Ref_writeCame_40 : decode (jm_cod M_Ref_writeCame) 40 = .ok (.dup2, 1) := dt_Ref_writeCame_c1 1
theorem d_Ref_writeCame_41 : decode (jm_cod M_Ref_writeCame) 41 = .ok (.iaload, 1) := dt_Ref_writeCame_c1 2
theorem d_Ref_writeCame_42 : decode (jm_cod M_Ref_writeCame) 42 = .ok (.iconst 1, 1) := dt_Ref_writeCame_c1 3
theorem d_Ref_writeCame_43 : decode (jm_cod M_Ref_writeCame) 43 = .ok (.iadd, 1) := dt_Ref_writeCame_c1 4
theorem d_Ref_writeCame_44 : decode (jm_cod M_Ref_writeCame) 44 = .ok (.iastore, 1) := dt_Ref_writeCame_c1 5
theorem d_Ref_writeCame_45 : decode (jm_cod M_Ref_writeCame) 45 = .ok (.aload_n 0, 1) := dt_Ref_writeCame_c1 6
theorem d_Ref_writeCame_46 : decode (jm_cod M_Ref_writeCame) 46 = .ok (.getfield 163, 3) := dt_Ref_writeCame_c1 7
theorem d_Ref_writeCame_49 : decode (jm_cod M_Ref_writeCame) 49 = .ok (.iload 4, 2) := dt_Ref_writeCame_c1 8
theorem d_Ref_writeCame_51 : decode (jm_cod M_Ref_writeCame) 51 = .ok (.lload_n 2, 1) := dt_Ref_writeCame_c1 9
theorem d_Ref_writeCame_52 : decode (jm_cod M_Ref_writeCame) 52 = .ok (.lastore, 1) := dt_Ref_writeCame_c1 10
theorem d_Ref_writeCame_53 : decode (jm_cod M_Ref_writeCame) 53 = .ok (.aload_n 0, 1) := dt_Ref_writeCame_c1 11
theorem d_Ref_writeCame_54 : decode (jm_cod M_Ref_writeCame) 54 = .ok (.getfield 166, 3) := dt_Ref_writeCame_c1 12
theorem d_Ref_writeCame_57 : decode (jm_cod M_Ref_writeCame) 57 = .ok (.iload 4, 2) := dt_Ref_writeCame_c1 13
theorem d_Ref_writeCame_59 : decode (jm_cod M_Ref_writeCame) 59 = .ok (.iconst 0, 1) := dt_Ref_writeCame_c1 14
theorem d_Ref_writeCame_60 : decode (jm_cod M_Ref_writeCame) 60 = .ok (.iastore, 1) := dt_Ref_writeCame_c1 15
theorem d_Ref_writeCame_61 : decode (jm_cod M_Ref_writeCame) 61 = .ok (.aload_n 0, 1) := dt_Ref_writeCame_c1 16
theorem d_Ref_writeCame_62 : decode (jm_cod M_Ref_writeCame) 62 = .ok (.getfield 169, 3) := dt_Ref_writeCame_c1 17
theorem d_Ref_writeCame_65 : decode (jm_cod M_Ref_writeCame) 65 = .ok (.iload 4, 2) := dt_Ref_writeCame_c1 18
theorem d_Ref_writeCame_67 : decode (jm_cod M_Ref_writeCame) 67 = .ok (.iconst (-1), 1) := dt_Ref_writeCame_c1 19
theorem d_Ref_writeCame_68 : decode (jm_cod M_Ref_writeCame) 68 = .ok (.iastore, 1) := dt_Ref_writeCame_c1 20
theorem d_Ref_writeCame_69 : decode (jm_cod M_Ref_writeCame) 69 = .ok (.return_, 1) := dt_Ref_writeCame_c1 21
def tab_Ref_freePlace_c0 : List (Nat × Instr × Nat) := [(0, .iconst 4, 1), (1, .iload_n 1, 1), (2, .imul, 1), (3, .istore_n 2, 1), (4, .aload_n 0, 1), (5, .iload_n 2, 1), (6, .baload, 1), (7, .ifCond .eq 9, 3), (10, .iinc 2 1, 3), (13, .goto (-9), 3), (16, .iload_n 2, 1), (17, .ireturn, 1)]
theorem dt_Ref_freePlace_c0 (i : Nat) : decode (jm_cod M_Ref_freePlace) (tab_Ref_freePlace_c0.getD i (0, .iconst 4, 1)).1 = .ok ((tab_Ref_freePlace_c0.getD i (0, .iconst 4, 1)).2.1, (tab_Ref_freePlace_c0.getD i (0, .iconst 4, 1)).2.2) := j_tab (by decide +kernel) i
theorem d_Ref_freePlace_0 : decode (jm_cod M_Ref_freePlace) 0 = .ok (.iconst 4, 1) := dt_Ref_freePlace_c0 0
theorem d_Ref_freePlace_1 : decode (jm_cod M_Ref_freePlace) 1 = .ok (.iload_n 1, 1) := dt_Ref_freePlace_c0 1
theorem d_Ref_freePlace_2 : decode (jm_cod M_Ref_freePlace) 2 = .ok (.imul, 1) := dt_Ref_freePlace_c0 2
theorem d_Ref_freePlace_3 : decode (jm_cod M_Ref_freePlace) 3 = .ok (.istore_n 2, 1) := dt_Ref_freePlace_c0 3
theorem d_Ref_freePlace_4 : decode (jm_cod M_Ref_freePlace) 4 = .ok (.aload_n 0, 1) := dt_Ref_freePlace_c0 4
theorem d_Ref_freePlace_5 : decode (jm_cod M_Ref_freePlace) 5 = .ok (.iload_n 2, 1) := dt_Ref_freePlace_c0 5
theorem d_Ref_freePlace_6 : decode (jm_cod M_Ref_freePlace) 6 = .ok (.baload, 1) := dt_Ref_freePlace_c0 6
theorem d_Ref_freePlace_7 : decode (jm_cod M_Ref_freePlace) 7 = .ok (.ifCond .eq 9, 3) := dt_Ref_freePlace_c0 7
theorem d_Ref_freePlace_10 : decode (jm_cod M_Ref_freePlace) 10 = .ok (.iinc 2 1, 3) := dt_Ref_freePlace_c0 8
theorem d_Ref_freePlace_13 : decode (jm_cod M_Ref_freePlace) 13 = .ok (.goto (-9), 3) := dt_Ref_freePlace_c0 9
theorem d_Ref_freePlace_16 : decode (jm_cod M_Ref_freePlace) 16 = .ok (.iload_n 2, 1) := dt_Ref_freePlace_c0 10
theorem d_Ref_freePlace_17 : decode (jm_cod M_Ref_freePlace) 17 = .ok (.ireturn, 1) := dt_Ref_freePlace_c0 11
def tab_Ref_beatCame_c0 : List (Nat × Instr × Nat) := [(0, .iconst 0, 1), (1, .istore 5, 2), (3, .aload_n 0, 1), (4, .getfield 166, 3), (7, .aload_n 0, 1), (8, .getfield 157, 3), (11, .iconst 4, 1), (12, .iload_n 1, 1), (13, .imul, 1), (14, .iload 5, 2), (16, .iadd, 1), (17, .iaload, 1), (18, .iaload, 1), (19, .aload_n 0, 1), (20, .getfield 163, 3), (23, .aload_n 0, 1), (24, .getfield 157, 3), (27, .iconst 4, 1), (28, .iload_n 1, 1), (29, .imul, 1), (30, .iload 5, 2), (32, .iadd, 1), (33, .iaload, 1), (34, .laload, 1)]
theorem dt_Ref_beatCame_c0 (i : Nat) : decode (jm_cod M_Ref_beatCame) (tab_Ref_beatCame_c0.getD i (0, .iconst 0, 1)).1 = .ok ((tab_Ref_beatCame_c0.getD i (0, .iconst 0, 1)).2.1, (tab_Ref_beatCame_c0.getD i (0, .iconst 0, 1)).2.2) := j_tab (by decide +kernel) i
theorem d_Ref_beatCame_0 : decode (jm_cod M_Ref_beatCame) 0 = .ok (.iconst 0, 1) := dt_Ref_beatCame_c0 0
theorem d_Ref_beatCame_1 : decode (jm_cod M_Ref_beatCame) 1 = .ok (.istore 5, 2) := dt_Ref_beatCame_c0 1
theorem d_Ref_beatCame_3 : decode (jm_cod M_Ref_beatCame) 3 = .ok (.aload_n 0, 1) := dt_Ref_beatCame_c0 2
theorem d_Ref_beatCame_4 : decode (jm_cod M_Ref_beatCame) 4 = .ok (.getfield 166, 3) := dt_Ref_beatCame_c0 3
theorem d_Ref_beatCame_7 : decode (jm_cod M_Ref_beatCame) 7 = .ok (.aload_n 0, 1) := dt_Ref_beatCame_c0 4
theorem d_Ref_beatCame_8 : decode (jm_cod M_Ref_beatCame) 8 = .ok (.getfield 157, 3) := dt_Ref_beatCame_c0 5
theorem d_Ref_beatCame_11 : decode (jm_cod M_Ref_beatCame) 11 = .ok (.iconst 4, 1) := dt_Ref_beatCame_c0 6
theorem d_Ref_beatCame_12 : decode (jm_cod M_Ref_beatCame) 12 = .ok (.iload_n 1, 1) := dt_Ref_beatCame_c0 7
theorem d_Ref_beatCame_13 : decode (jm_cod M_Ref_beatCame) 13 = .ok (.imul, 1) := dt_Ref_beatCame_c0 8
theorem d_Ref_beatCame_14 : decode (jm_cod M_Ref_beatCame) 14 = .ok (.iload 5, 2) := dt_Ref_beatCame_c0 9
theorem d_Ref_beatCame_16 : decode (jm_cod M_Ref_beatCame) 16 = .ok (.iadd, 1) := dt_Ref_beatCame_c0 10
theorem d_Ref_beatCame_17 : decode (jm_cod M_Ref_beatCame) 17 = .ok (.iaload, 1) := dt_Ref_beatCame_c0 11
theorem d_Ref_beatCame_18 : decode (jm_cod M_Ref_beatCame) 18 = .ok (.iaload, 1) := dt_Ref_beatCame_c0 12
theorem d_Ref_beatCame_19 : decode (jm_cod M_Ref_beatCame) 19 = .ok (.aload_n 0, 1) := dt_Ref_beatCame_c0 13
theorem d_Ref_beatCame_20 : decode (jm_cod M_Ref_beatCame) 20 = .ok (.getfield 163, 3) := dt_Ref_beatCame_c0 14
theorem d_Ref_beatCame_23 : decode (jm_cod M_Ref_beatCame) 23 = .ok (.aload_n 0, 1) := dt_Ref_beatCame_c0 15
theorem d_Ref_beatCame_24 : decode (jm_cod M_Ref_beatCame) 24 = .ok (.getfield 157, 3) := dt_Ref_beatCame_c0 16
theorem d_Ref_beatCame_27 : decode (jm_cod M_Ref_beatCame) 27 = .ok (.iconst 4, 1) := dt_Ref_beatCame_c0 17
theorem d_Ref_beatCame_28 : decode (jm_cod M_Ref_beatCame) 28 = .ok (.iload_n 1, 1) := dt_Ref_beatCame_c0 18
theorem d_Ref_beatCame_29 : decode (jm_cod M_Ref_beatCame) 29 = .ok (.imul, 1) := dt_Ref_beatCame_c0 19
theorem d_Ref_beatCame_30 : decode (jm_cod M_Ref_beatCame) 30 = .ok (.iload 5, 2) := dt_Ref_beatCame_c0 20
theorem d_Ref_beatCame_32 : decode (jm_cod M_Ref_beatCame) 32 = .ok (.iadd, 1) := dt_Ref_beatCame_c0 21
theorem d_Ref_beatCame_33 : decode (jm_cod M_Ref_beatCame) 33 = .ok (.iaload, 1) := dt_Ref_beatCame_c0 22
theorem d_Ref_beatCame_34 : decode (jm_cod M_Ref_beatCame) 34 = .ok (.laload, 1) := dt_Ref_beatCame_c0 23
def tab_Ref_beatCame_c1 : List (Nat × Instr × Nat) := [(35, .invokestatic 321, 3), (38, .if_icmp .ne 9, 3), (41, .iinc 5 1, 3), (44, .goto (-41), 3), (47, .aload_n 0, 1), (48, .getfield 157, 3), (51, .iconst 4, 1), (52, .iload_n 1, 1), (53, .imul, 1), (54, .iload 5, 2), (56, .iadd, 1), (57, .iaload, 1), (58, .istore 6, 2), (60, .aload_n 0, 1), (61, .getfield 175, 3), (64, .bipush 16, 2), (66, .iload 6, 2), (68, .imul, 1), (69, .aload_n 0, 1), (70, .getfield 166, 3), (73, .iload 6, 2), (75, .iaload, 1), (76, .iadd, 1), (77, .lload_n 2, 1)]
theorem dt_Ref_beatCame_c1 (i : Nat) : decode (jm_cod M_Ref_beatCame) (tab_Ref_beatCame_c1.getD i (35, .invokestatic 321, 3)).1 = .ok ((tab_Ref_beatCame_c1.getD i (35, .invokestatic 321, 3)).2.1, (tab_Ref_beatCame_c1.getD i (35, .invokestatic 321, 3)).2.2) := j_tab (by decide +kernel) i
theorem d_Ref_beatCame_35 : decode (jm_cod M_Ref_beatCame) 35 = .ok (.invokestatic 321, 3) := dt_Ref_beatCame_c1 0
theorem d_Ref_beatCame_38 : decode (jm_cod M_Ref_beatCame) 38 = .ok (.if_icmp .ne 9, 3) := dt_Ref_beatCame_c1 1
theorem d_Ref_beatCame_41 : decode (jm_cod M_Ref_beatCame) 41 = .ok (.iinc 5 1, 3) := dt_Ref_beatCame_c1 2
theorem d_Ref_beatCame_44 : decode (jm_cod M_Ref_beatCame) 44 = .ok (.goto (-41), 3) := dt_Ref_beatCame_c1 3
theorem d_Ref_beatCame_47 : decode (jm_cod M_Ref_beatCame) 47 = .ok (.aload_n 0, 1) := dt_Ref_beatCame_c1 4
theorem d_Ref_beatCame_48 : decode (jm_cod M_Ref_beatCame) 48 = .ok (.getfield 157, 3) := dt_Ref_beatCame_c1 5
theorem d_Ref_beatCame_51 : decode (jm_cod M_Ref_beatCame) 51 = .ok (.iconst 4, 1) := dt_Ref_beatCame_c1 6
theorem d_Ref_beatCame_52 : decode (jm_cod M_Ref_beatCame) 52 = .ok (.iload_n 1, 1) := dt_Ref_beatCame_c1 7
theorem d_Ref_beatCame_53 : decode (jm_cod M_Ref_beatCame) 53 = .ok (.imul, 1) := dt_Ref_beatCame_c1 8
theorem d_Ref_beatCame_54 : decode (jm_cod M_Ref_beatCame) 54 = .ok (.iload 5, 2) := dt_Ref_beatCame_c1 9
theorem d_Ref_beatCame_56 : decode (jm_cod M_Ref_beatCame) 56 = .ok (.iadd, 1) := dt_Ref_beatCame_c1 10
theorem d_Ref_beatCame_57 : decode (jm_cod M_Ref_beatCame) 57 = .ok (.iaload, 1) := dt_Ref_beatCame_c1 11
theorem d_Ref_beatCame_58 : decode (jm_cod M_Ref_beatCame) 58 = .ok (.istore 6, 2) := dt_Ref_beatCame_c1 12
theorem d_Ref_beatCame_60 : decode (jm_cod M_Ref_beatCame) 60 = .ok (.aload_n 0, 1) := dt_Ref_beatCame_c1 13
theorem d_Ref_beatCame_61 : decode (jm_cod M_Ref_beatCame) 61 = .ok (.getfield 175, 3) := dt_Ref_beatCame_c1 14
theorem d_Ref_beatCame_64 : decode (jm_cod M_Ref_beatCame) 64 = .ok (.bipush 16, 2) := dt_Ref_beatCame_c1 15
theorem d_Ref_beatCame_66 : decode (jm_cod M_Ref_beatCame) 66 = .ok (.iload 6, 2) := dt_Ref_beatCame_c1 16
theorem d_Ref_beatCame_68 : decode (jm_cod M_Ref_beatCame) 68 = .ok (.imul, 1) := dt_Ref_beatCame_c1 17
theorem d_Ref_beatCame_69 : decode (jm_cod M_Ref_beatCame) 69 = .ok (.aload_n 0, 1) := dt_Ref_beatCame_c1 18
theorem d_Ref_beatCame_70 : decode (jm_cod M_Ref_beatCame) 70 = .ok (.getfield 166, 3) := dt_Ref_beatCame_c1 19
theorem d_Ref_beatCame_73 : decode (jm_cod M_Ref_beatCame) 73 = .ok (.iload 6, 2) := dt_Ref_beatCame_c1 20
theorem d_Ref_beatCame_75 : decode (jm_cod M_Ref_beatCame) 75 = .ok (.iaload, 1) := dt_Ref_beatCame_c1 21
theorem d_Ref_beatCame_76 : decode (jm_cod M_Ref_beatCame) 76 = .ok (.iadd, 1) := dt_Ref_beatCame_c1 22
theorem d_Ref_beatCame_77 : decode (jm_cod M_Ref_beatCame) 77 = .ok (.lload_n 2, 1) := dt_Ref_beatCame_c1 23
def tab_Ref_beatCame_c2 : List (Nat × Instr × Nat) := [(78, .lastore, 1), (79, .aload_n 0, 1), (80, .getfield 178, 3), (83, .bipush 16, 2), (85, .iload 6, 2), (87, .imul, 1), (88, .aload_n 0, 1), (89, .getfield 166, 3), (92, .iload 6, 2), (94, .iaload, 1), (95, .iadd, 1), (96, .iload 4, 2), (98, .sipush 255, 3), (101, .iand, 1), (102, .iastore, 1), (103, .aload_n 0, 1), (104, .getfield 166, 3), (107, .iload 6, 2), (109, .dup2, 1), (110, .iaload, 1), (111, .iconst 1, 1), (112, .iadd, 1), (113, .iastore, 1), (114, .aload_n 0, 1)]
theorem dt_Ref_beatCame_c2 (i : Nat) : decode (jm_cod M_Ref_beatCame) (tab_Ref_beatCame_c2.getD i (78, .lastore, 1)).1 = .ok ((tab_Ref_beatCame_c2.getD i (78, .lastore, 1)).2.1, (tab_Ref_beatCame_c2.getD i (78, .lastore, 1)).2.2) := j_tab (by decide +kernel) i
theorem d_Ref_beatCame_78 : decode (jm_cod M_Ref_beatCame) 78 = .ok (.lastore, 1) := dt_Ref_beatCame_c2 0
theorem d_Ref_beatCame_79 : decode (jm_cod M_Ref_beatCame) 79 = .ok (.aload_n 0, 1) := dt_Ref_beatCame_c2 1
theorem d_Ref_beatCame_80 : decode (jm_cod M_Ref_beatCame) 80 = .ok (.getfield 178, 3) := dt_Ref_beatCame_c2 2
theorem d_Ref_beatCame_83 : decode (jm_cod M_Ref_beatCame) 83 = .ok (.bipush 16, 2) := dt_Ref_beatCame_c2 3
theorem d_Ref_beatCame_85 : decode (jm_cod M_Ref_beatCame) 85 = .ok (.iload 6, 2) := dt_Ref_beatCame_c2 4
theorem d_Ref_beatCame_87 : decode (jm_cod M_Ref_beatCame) 87 = .ok (.imul, 1) := dt_Ref_beatCame_c2 5
theorem d_Ref_beatCame_88 : decode (jm_cod M_Ref_beatCame) 88 = .ok (.aload_n 0, 1) := dt_Ref_beatCame_c2 6
theorem d_Ref_beatCame_89 : decode (jm_cod M_Ref_beatCame) 89 = .ok (.getfield 166, 3) := dt_Ref_beatCame_c2 7
theorem d_Ref_beatCame_92 : decode (jm_cod M_Ref_beatCame) 92 = .ok (.iload 6, 2) := dt_Ref_beatCame_c2 8
theorem d_Ref_beatCame_94 : decode (jm_cod M_Ref_beatCame) 94 = .ok (.iaload, 1) := dt_Ref_beatCame_c2 9
theorem d_Ref_beatCame_95 : decode (jm_cod M_Ref_beatCame) 95 = .ok (.iadd, 1) := dt_Ref_beatCame_c2 10
theorem d_Ref_beatCame_96 : decode (jm_cod M_Ref_beatCame) 96 = .ok (.iload 4, 2) := dt_Ref_beatCame_c2 11
theorem d_Ref_beatCame_98 : decode (jm_cod M_Ref_beatCame) 98 = .ok (.sipush 255, 3) := dt_Ref_beatCame_c2 12
theorem d_Ref_beatCame_101 : decode (jm_cod M_Ref_beatCame) 101 = .ok (.iand, 1) := dt_Ref_beatCame_c2 13
theorem d_Ref_beatCame_102 : decode (jm_cod M_Ref_beatCame) 102 = .ok (.iastore, 1) := dt_Ref_beatCame_c2 14
theorem d_Ref_beatCame_103 : decode (jm_cod M_Ref_beatCame) 103 = .ok (.aload_n 0, 1) := dt_Ref_beatCame_c2 15
theorem d_Ref_beatCame_104 : decode (jm_cod M_Ref_beatCame) 104 = .ok (.getfield 166, 3) := dt_Ref_beatCame_c2 16
theorem d_Ref_beatCame_107 : decode (jm_cod M_Ref_beatCame) 107 = .ok (.iload 6, 2) := dt_Ref_beatCame_c2 17
theorem d_Ref_beatCame_109 : decode (jm_cod M_Ref_beatCame) 109 = .ok (.dup2, 1) := dt_Ref_beatCame_c2 18
theorem d_Ref_beatCame_110 : decode (jm_cod M_Ref_beatCame) 110 = .ok (.iaload, 1) := dt_Ref_beatCame_c2 19
theorem d_Ref_beatCame_111 : decode (jm_cod M_Ref_beatCame) 111 = .ok (.iconst 1, 1) := dt_Ref_beatCame_c2 20
theorem d_Ref_beatCame_112 : decode (jm_cod M_Ref_beatCame) 112 = .ok (.iadd, 1) := dt_Ref_beatCame_c2 21
theorem d_Ref_beatCame_113 : decode (jm_cod M_Ref_beatCame) 113 = .ok (.iastore, 1) := dt_Ref_beatCame_c2 22
theorem d_Ref_beatCame_114 : decode (jm_cod M_Ref_beatCame) 114 = .ok (.aload_n 0, 1) := dt_Ref_beatCame_c2 23
def tab_Ref_beatCame_c3 : List (Nat × Instr × Nat) := [(115, .getfield 166, 3), (118, .iload 6, 2), (120, .iaload, 1), (121, .aload_n 0, 1), (122, .getfield 163, 3), (125, .iload 6, 2), (127, .laload, 1), (128, .invokestatic 321, 3), (131, .if_icmp .ne 21, 3), (134, .aload_n 0, 1), (135, .getfield 169, 3), (138, .iload 6, 2), (140, .aload_n 0, 1), (141, .getfield 348, 3), (144, .iastore, 1), (145, .aload_n 0, 1), (146, .iload_n 1, 1), (147, .iload 6, 2), (149, .invokevirtual 484, 3), (152, .return_, 1)]
theorem dt_Ref_beatCame_c3 (i : Nat) : decode (jm_cod M_Ref_beatCame) (tab_Ref_beatCame_c3.getD i (115, .getfield 166, 3)).1 = .ok ((tab_Ref_beatCame_c3.getD i (115, .getfield 166, 3)).2.1, (tab_Ref_beatCame_c3.getD i (115, .getfield 166, 3)).2.2) := j_tab (by decide +kernel) i
theorem d_Ref_beatCame_115 : decode (jm_cod M_Ref_beatCame) 115 = .ok (.getfield 166, 3) := dt_Ref_beatCame_c3 0
theorem d_Ref_beatCame_118 : decode (jm_cod M_Ref_beatCame) 118 = .ok (.iload 6, 2) := dt_Ref_beatCame_c3 1
theorem d_Ref_beatCame_120 : decode (jm_cod M_Ref_beatCame) 120 = .ok (.iaload, 1) := dt_Ref_beatCame_c3 2
theorem d_Ref_beatCame_121 : decode (jm_cod M_Ref_beatCame) 121 = .ok (.aload_n 0, 1) := dt_Ref_beatCame_c3 3
theorem d_Ref_beatCame_122 : decode (jm_cod M_Ref_beatCame) 122 = .ok (.getfield 163, 3) := dt_Ref_beatCame_c3 4
theorem d_Ref_beatCame_125 : decode (jm_cod M_Ref_beatCame) 125 = .ok (.iload 6, 2) := dt_Ref_beatCame_c3 5
theorem d_Ref_beatCame_127 : decode (jm_cod M_Ref_beatCame) 127 = .ok (.laload, 1) := dt_Ref_beatCame_c3 6
theorem d_Ref_beatCame_128 : decode (jm_cod M_Ref_beatCame) 128 = .ok (.invokestatic 321, 3) := dt_Ref_beatCame_c3 7
theorem d_Ref_beatCame_131 : decode (jm_cod M_Ref_beatCame) 131 = .ok (.if_icmp .ne 21, 3) := dt_Ref_beatCame_c3 8
theorem d_Ref_beatCame_134 : decode (jm_cod M_Ref_beatCame) 134 = .ok (.aload_n 0, 1) := dt_Ref_beatCame_c3 9
theorem d_Ref_beatCame_135 : decode (jm_cod M_Ref_beatCame) 135 = .ok (.getfield 169, 3) := dt_Ref_beatCame_c3 10
theorem d_Ref_beatCame_138 : decode (jm_cod M_Ref_beatCame) 138 = .ok (.iload 6, 2) := dt_Ref_beatCame_c3 11
theorem d_Ref_beatCame_140 : decode (jm_cod M_Ref_beatCame) 140 = .ok (.aload_n 0, 1) := dt_Ref_beatCame_c3 12
theorem d_Ref_beatCame_141 : decode (jm_cod M_Ref_beatCame) 141 = .ok (.getfield 348, 3) := dt_Ref_beatCame_c3 13
theorem d_Ref_beatCame_144 : decode (jm_cod M_Ref_beatCame) 144 = .ok (.iastore, 1) := dt_Ref_beatCame_c3 14
theorem d_Ref_beatCame_145 : decode (jm_cod M_Ref_beatCame) 145 = .ok (.aload_n 0, 1) := dt_Ref_beatCame_c3 15
theorem d_Ref_beatCame_146 : decode (jm_cod M_Ref_beatCame) 146 = .ok (.iload_n 1, 1) := dt_Ref_beatCame_c3 16
theorem d_Ref_beatCame_147 : decode (jm_cod M_Ref_beatCame) 147 = .ok (.iload 6, 2) := dt_Ref_beatCame_c3 17
theorem d_Ref_beatCame_149 : decode (jm_cod M_Ref_beatCame) 149 = .ok (.invokevirtual 484, 3) := dt_Ref_beatCame_c3 18
theorem d_Ref_beatCame_152 : decode (jm_cod M_Ref_beatCame) 152 = .ok (.return_, 1) := dt_Ref_beatCame_c3 19
def tab_Ref_doWrite_c0 : List (Nat × Instr × Nat) := [(0, .aload_n 0, 1), (1, .getfield 163, 3), (4, .iload_n 2, 1), (5, .laload, 1), (6, .lstore_n 3, 1), (7, .lload_n 3, 1), (8, .invokestatic 321, 3), (11, .istore 5, 2), (13, .iconst 0, 1), (14, .istore 6, 2), (16, .iconst 0, 1), (17, .istore 7, 2), (19, .iload 7, 2), (21, .iload 5, 2), (23, .if_icmp .ge 74, 3), (26, .iconst 0, 1), (27, .istore 8, 2), (29, .iload 8, 2), (31, .bipush 8, 2), (33, .if_icmp .ge 58, 3), (36, .iload 6, 2), (38, .ifCond .ne 40, 3), (41, .aload_n 0, 1), (42, .getfield 178, 3)]
theorem dt_Ref_doWrite_c0 (i : Nat) : decode (jm_cod M_Ref_doWrite) (tab_Ref_doWrite_c0.getD i (0, .aload_n 0, 1)).1 = .ok ((tab_Ref_doWrite_c0.getD i (0, .aload_n 0, 1)).2.1, (tab_Ref_doWrite_c0.getD i (0, .aload_n 0, 1)).2.2) := j_tab (by decide +kernel) i
theorem d_Ref_doWrite_0 : decode (jm_cod M_Ref_doWrite) 0 = .ok (.aload_n 0, 1) := dt_Ref_doWrite_c0 0
theorem d_Ref_doWrite_1 : decode (jm_cod M_Ref_doWrite) 1 = .ok (.getfield 163, 3) := dt_Ref_doWrite_c0 1
theorem d_Ref_doWrite_4 : decode (jm_cod M_Ref_doWrite) 4 = .ok (.iload_n 2, 1) := dt_Ref_doWrite_c0 2
theorem d_Ref_doWrite_5 : decode (jm_cod M_Ref_doWrite) 5 = .ok (.laload, 1) := dt_Ref_doWrite_c0 3
theorem d_Ref_doWrite_6 : decode (jm_cod M_Ref_doWrite) 6 = .ok (.lstore_n 3, 1) := dt_Ref_doWrite_c0 4
theorem d_Ref_doWrite_7 : decode (jm_cod M_Ref_doWrite) 7 = .ok (.lload_n 3, 1) := dt_Ref_doWrite_c0 5
theorem d_Ref_doWrite_8 : decode (jm_cod M_Ref_doWrite) 8 = .ok (.invokestatic 321, 3) := dt_Ref_doWrite_c0 6
theorem d_Ref_doWrite_11 : decode (jm_cod M_Ref_doWrite) 11 = .ok (.istore 5, 2) := dt_Ref_doWrite_c0 7
theorem d_Ref_doWrite_13 : decode (jm_cod M_Ref_doWrite) 13 = .ok (.iconst 0, 1) := dt_Ref_doWrite_c0 8
theorem d_Ref_doWrite_14 : decode (jm_cod M_Ref_doWrite) 14 = .ok (.istore 6, 2) := dt_Ref_doWrite_c0 9
theorem d_Ref_doWrite_16 : decode (jm_cod M_Ref_doWrite) 16 = .ok (.iconst 0, 1) := dt_Ref_doWrite_c0 10
theorem d_Ref_doWrite_17 : decode (jm_cod M_Ref_doWrite) 17 = .ok (.istore 7, 2) := dt_Ref_doWrite_c0 11
theorem d_Ref_doWrite_19 : decode (jm_cod M_Ref_doWrite) 19 = .ok (.iload 7, 2) := dt_Ref_doWrite_c0 12
theorem d_Ref_doWrite_21 : decode (jm_cod M_Ref_doWrite) 21 = .ok (.iload 5, 2) := dt_Ref_doWrite_c0 13
theorem d_Ref_doWrite_23 : decode (jm_cod M_Ref_doWrite) 23 = .ok (.if_icmp .ge 74, 3) := dt_Ref_doWrite_c0 14
theorem d_Ref_doWrite_26 : decode (jm_cod M_Ref_doWrite) 26 = .ok (.iconst 0, 1) := dt_Ref_doWrite_c0 15
theorem d_Ref_doWrite_27 : decode (jm_cod M_Ref_doWrite) 27 = .ok (.istore 8, 2) := dt_Ref_doWrite_c0 16
theorem d_Ref_doWrite_29 : decode (jm_cod M_Ref_doWrite) 29 = .ok (.iload 8, 2) := dt_Ref_doWrite_c0 17
theorem d_Ref_doWrite_31 : decode (jm_cod M_Ref_doWrite) 31 = .ok (.bipush 8, 2) := dt_Ref_doWrite_c0 18
theorem d_Ref_doWrite_33 : decode (jm_cod M_Ref_doWrite) 33 = .ok (.if_icmp .ge 58, 3) := dt_Ref_doWrite_c0 19
theorem d_Ref_doWrite_36 : decode (jm_cod M_Ref_doWrite) 36 = .ok (.iload 6, 2) := dt_Ref_doWrite_c0 20
theorem d_Ref_doWrite_38 : decode (jm_cod M_Ref_doWrite) 38 = .ok (.ifCond .ne 40, 3) := dt_Ref_doWrite_c0 21
theorem d_Ref_doWrite_41 : decode (jm_cod M_Ref_doWrite) 41 = .ok (.aload_n 0, 1) := dt_Ref_doWrite_c0 22
theorem d_Ref_doWrite_42 : decode (jm_cod M_Ref_doWrite) 42 = .ok (.getfield 178, 3) := dt_Ref_doWrite_c0 23
def tab_Ref_doWrite_c1 : List (Nat × Instr × Nat) := [(45, .bipush 16, 2), (47, .iload_n 2, 1), (48, .imul, 1), (49, .iload 7, 2), (51, .iadd, 1), (52, .iaload, 1), (53, .iload 8, 2), (55, .ishr, 1), (56, .iconst 1, 1), (57, .iand, 1), (58, .iconst 1, 1), (59, .if_icmp .ne 23, 3), (62, .aload_n 0, 1), (63, .getfield 33, 3), (66, .lload_n 3, 1), (67, .iload 7, 2), (69, .iload 8, 2), (71, .invokestatic 487, 3), (74, .baload, 1), (75, .ifCond .eq 7, 3), (78, .iconst 1, 1), (79, .goto 4, 3), (82, .iconst 0, 1), (83, .istore 6, 2)]
theorem dt_Ref_doWrite_c1 (i : Nat) : decode (jm_cod M_Ref_doWrite) (tab_Ref_doWrite_c1.getD i (45, .bipush 16, 2)).1 = .ok ((tab_Ref_doWrite_c1.getD i (45, .bipush 16, 2)).2.1, (tab_Ref_doWrite_c1.getD i (45, .bipush 16, 2)).2.2) := j_tab (by decide +kernel) i
theorem d_Ref_doWrite_45 : decode (jm_cod M_Ref_doWrite) 45 = .ok (.bipush 16, 2) := dt_Ref_doWrite_c1 0
theorem d_Ref_doWrite_47 : decode (jm_cod M_Ref_doWrite) 47 = .ok (.iload_n 2, 1) := dt_Ref_doWrite_c1 1
theorem d_Ref_doWrite_48 : decode (jm_cod M_Ref_doWrite) 48 = .ok (.imul, 1) := dt_Ref_doWrite_c1 2
theorem d_Ref_doWrite_49 : decode (jm_cod M_Ref_doWrite) 49 = .ok (.iload 7, 2) := dt_Ref_doWrite_c1 3
theorem d_Ref_doWrite_51 : decode (jm_cod M_Ref_doWrite) 51 = .ok (.iadd, 1) := dt_Ref_doWrite_c1 4
theorem d_Ref_doWrite_52 : decode (jm_cod M_Ref_doWrite) 52 = .ok (.iaload, 1) := dt_Ref_doWrite_c1 5
theorem d_Ref_doWrite_53 : decode (jm_cod M_Ref_doWrite) 53 = .ok (.iload 8, 2) := dt_Ref_doWrite_c1 6
theorem d_Ref_doWrite_55 : decode (jm_cod M_Ref_doWrite) 55 = .ok (.ishr, 1) := dt_Ref_doWrite_c1 7
theorem d_Ref_doWrite_56 : decode (jm_cod M_Ref_doWrite) 56 = .ok (.iconst 1, 1) := dt_Ref_doWrite_c1 8
theorem d_Ref_doWrite_57 : decode (jm_cod M_Ref_doWrite) 57 = .ok (.iand, 1) := dt_Ref_doWrite_c1 9
theorem d_Ref_doWrite_58 : decode (jm_cod M_Ref_doWrite) 58 = .ok (.iconst 1, 1) := dt_Ref_doWrite_c1 10
theorem d_Ref_doWrite_59 : decode (jm_cod M_Ref_doWrite) 59 = .ok (.if_icmp .ne 23, 3) := dt_Ref_doWrite_c1 11
theorem d_Ref_doWrite_62 : decode (jm_cod M_Ref_doWrite) 62 = .ok (.aload_n 0, 1) := dt_Ref_doWrite_c1 12
theorem d_Ref_doWrite_63 : decode (jm_cod M_Ref_doWrite) 63 = .ok (.getfield 33, 3) := dt_Ref_doWrite_c1 13
theorem d_Ref_doWrite_66 : decode (jm_cod M_Ref_doWrite) 66 = .ok (.lload_n 3, 1) := dt_Ref_doWrite_c1 14
theorem d_Ref_doWrite_67 : decode (jm_cod M_Ref_doWrite) 67 = .ok (.iload 7, 2) := dt_Ref_doWrite_c1 15
theorem d_Ref_doWrite_69 : decode (jm_cod M_Ref_doWrite) 69 = .ok (.iload 8, 2) := dt_Ref_doWrite_c1 16
theorem d_Ref_doWrite_71 : decode (jm_cod M_Ref_doWrite) 71 = .ok (.invokestatic 487, 3) := dt_Ref_doWrite_c1 17
theorem d_Ref_doWrite_74 : decode (jm_cod M_Ref_doWrite) 74 = .ok (.baload, 1) := dt_Ref_doWrite_c1 18
theorem d_Ref_doWrite_75 : decode (jm_cod M_Ref_doWrite) 75 = .ok (.ifCond .eq 7, 3) := dt_Ref_doWrite_c1 19
theorem d_Ref_doWrite_78 : decode (jm_cod M_Ref_doWrite) 78 = .ok (.iconst 1, 1) := dt_Ref_doWrite_c1 20
theorem d_Ref_doWrite_79 : decode (jm_cod M_Ref_doWrite) 79 = .ok (.goto 4, 3) := dt_Ref_doWrite_c1 21
theorem d_Ref_doWrite_82 : decode (jm_cod M_Ref_doWrite) 82 = .ok (.iconst 0, 1) := dt_Ref_doWrite_c1 22
theorem d_Ref_doWrite_83 : decode (jm_cod M_Ref_doWrite) 83 = .ok (.istore 6, 2) := dt_Ref_doWrite_c1 23
def tab_Ref_doWrite_c2 : List (Nat × Instr × Nat) := [(85, .iinc 8 1, 3), (88, .goto (-59), 3), (91, .iinc 7 1, 3), (94, .goto (-75), 3), (97, .bipush 64, 2), (99, .iload_n 1, 1), (100, .imul, 1), (101, .lload_n 3, 1), (102, .invokestatic 396, 3), (105, .iadd, 1), (106, .istore 7, 2), (108, .aload_n 0, 1), (109, .getfield 220, 3), (112, .iload 7, 2), (114, .iaload, 1), (115, .lload_n 3, 1), (116, .invokestatic 314, 3), (119, .if_icmp .ne 24, 3), (122, .aload_n 0, 1), (123, .getfield 223, 3), (126, .iload 7, 2), (128, .iaload, 1), (129, .iload 5, 2), (131, .lload_n 3, 1)]
theorem dt_Ref_doWrite_c2 (i : Nat) : decode (jm_cod M_Ref_doWrite) (tab_Ref_doWrite_c2.getD i (85, .iinc 8 1, 3)).1 = .ok ((tab_Ref_doWrite_c2.getD i (85, .iinc 8 1, 3)).2.1, (tab_Ref_doWrite_c2.getD i (85, .iinc 8 1, 3)).2.2) := j_tab (by decide +kernel) i
theorem d_Ref_doWrite_85 : decode (jm_cod M_Ref_doWrite) 85 = .ok (.iinc 8 1, 3) := dt_Ref_doWrite_c2 0
theorem d_Ref_doWrite_88 : decode (jm_cod M_Ref_doWrite) 88 = .ok (.goto (-59), 3) := dt_Ref_doWrite_c2 1
theorem d_Ref_doWrite_91 : decode (jm_cod M_Ref_doWrite) 91 = .ok (.iinc 7 1, 3) := dt_Ref_doWrite_c2 2
theorem d_Ref_doWrite_94 : decode (jm_cod M_Ref_doWrite) 94 = .ok (.goto (-75), 3) := dt_Ref_doWrite_c2 3
theorem d_Ref_doWrite_97 : decode (jm_cod M_Ref_doWrite) 97 = .ok (.bipush 64, 2) := dt_Ref_doWrite_c2 4
theorem d_Ref_doWrite_99 : decode (jm_cod M_Ref_doWrite) 99 = .ok (.iload_n 1, 1) := dt_Ref_doWrite_c2 5
theorem d_Ref_doWrite_100 : decode (jm_cod M_Ref_doWrite) 100 = .ok (.imul, 1) := dt_Ref_doWrite_c2 6
theorem d_Ref_doWrite_101 : decode (jm_cod M_Ref_doWrite) 101 = .ok (.lload_n 3, 1) := dt_Ref_doWrite_c2 7
theorem d_Ref_doWrite_102 : decode (jm_cod M_Ref_doWrite) 102 = .ok (.invokestatic 396, 3) := dt_Ref_doWrite_c2 8
theorem d_Ref_doWrite_105 : decode (jm_cod M_Ref_doWrite) 105 = .ok (.iadd, 1) := dt_Ref_doWrite_c2 9
theorem d_Ref_doWrite_106 : decode (jm_cod M_Ref_doWrite) 106 = .ok (.istore 7, 2) := dt_Ref_doWrite_c2 10
theorem d_Ref_doWrite_108 : decode (jm_cod M_Ref_doWrite) 108 = .ok (.aload_n 0, 1) := dt_Ref_doWrite_c2 11
theorem d_Ref_doWrite_109 : decode (jm_cod M_Ref_doWrite) 109 = .ok (.getfield 220, 3) := dt_Ref_doWrite_c2 12
theorem d_Ref_doWrite_112 : decode (jm_cod M_Ref_doWrite) 112 = .ok (.iload 7, 2) := dt_Ref_doWrite_c2 13
theorem d_Ref_doWrite_114 : decode (jm_cod M_Ref_doWrite) 114 = .ok (.iaload, 1) := dt_Ref_doWrite_c2 14
theorem d_Ref_doWrite_115 : decode (jm_cod M_Ref_doWrite) 115 = .ok (.lload_n 3, 1) := dt_Ref_doWrite_c2 15
theorem d_Ref_doWrite_116 : decode (jm_cod M_Ref_doWrite) 116 = .ok (.invokestatic 314, 3) := dt_Ref_doWrite_c2 16
theorem d_Ref_doWrite_119 : decode (jm_cod M_Ref_doWrite) 119 = .ok (.if_icmp .ne 24, 3) := dt_Ref_doWrite_c2 17
theorem d_Ref_doWrite_122 : decode (jm_cod M_Ref_doWrite) 122 = .ok (.aload_n 0, 1) := dt_Ref_doWrite_c2 18
theorem d_Ref_doWrite_123 : decode (jm_cod M_Ref_doWrite) 123 = .ok (.getfield 223, 3) := dt_Ref_doWrite_c2 19
theorem d_Ref_doWrite_126 : decode (jm_cod M_Ref_doWrite) 126 = .ok (.iload 7, 2) := dt_Ref_doWrite_c2 20
theorem d_Ref_doWrite_128 : decode (jm_cod M_Ref_doWrite) 128 = .ok (.iaload, 1) := dt_Ref_doWrite_c2 21
theorem d_Ref_doWrite_129 : decode (jm_cod M_Ref_doWrite) 129 = .ok (.iload 5, 2) := dt_Ref_doWrite_c2 22
theorem d_Ref_doWrite_131 : decode (jm_cod M_Ref_doWrite) 131 = .ok (.lload_n 3, 1) := dt_Ref_doWrite_c2 23
def tab_Ref_doWrite_c3 : List (Nat × Instr × Nat) := [(132, .invokestatic 318, 3), (135, .imul, 1), (136, .if_icmp .ne 7, 3), (139, .iconst 1, 1), (140, .goto 4, 3), (143, .iconst 0, 1), (144, .istore 8, 2), (146, .lload_n 3, 1), (147, .invokestatic 329, 3), (150, .ifCond .eq 11, 3), (153, .aload_n 0, 1), (154, .getfield 220, 3), (157, .iload 7, 2), (159, .iconst (-1), 1), (160, .iastore, 1), (161, .aload_n 0, 1), (162, .getfield 172, 3), (165, .iload_n 2, 1), (166, .iload 6, 2), (168, .ifCond .eq 7, 3), (171, .iconst 2, 1), (172, .goto 20, 3), (175, .lload_n 3, 1), (176, .invokestatic 329, 3)]
theorem dt_Ref_doWrite_c3 (i : Nat) : decode (jm_cod M_Ref_doWrite) (tab_Ref_doWrite_c3.getD i (132, .invokestatic 318, 3)).1 = .ok ((tab_Ref_doWrite_c3.getD i (132, .invokestatic 318, 3)).2.1, (tab_Ref_doWrite_c3.getD i (132, .invokestatic 318, 3)).2.2) := j_tab (by decide +kernel) i
theorem d_Ref_doWrite_132 : decode (jm_cod M_Ref_doWrite) 132 = .ok (.invokestatic 318, 3) := dt_Ref_doWrite_c3 0
theorem d_Ref_doWrite_135 : decode (jm_cod M_Ref_doWrite) 135 = .ok (.imul, 1) := dt_Ref_doWrite_c3 1
theorem d_Ref_doWrite_136 : decode (jm_cod M_Ref_doWrite) 136 = .ok (.if_icmp .ne 7, 3) := dt_Ref_doWrite_c3 2
theorem d_Ref_doWrite_139 : decode (jm_cod M_Ref_doWrite) 139 = .ok (.iconst 1, 1) := dt_Ref_doWrite_c3 3
theorem d_Ref_doWrite_140 : decode (jm_cod M_Ref_doWrite) 140 = .ok (.goto 4, 3) := dt_Ref_doWrite_c3 4
theorem d_Ref_doWrite_143 : decode (jm_cod M_Ref_doWrite) 143 = .ok (.iconst 0, 1) := dt_Ref_doWrite_c3 5
theorem d_Ref_doWrite_144 : decode (jm_cod M_Ref_doWrite) 144 = .ok (.istore 8, 2) := dt_Ref_doWrite_c3 6
theorem d_Ref_doWrite_146 : decode (jm_cod M_Ref_doWrite) 146 = .ok (.lload_n 3, 1) := dt_Ref_doWrite_c3 7
theorem d_Ref_doWrite_147 : decode (jm_cod M_Ref_doWrite) 147 = .ok (.invokestatic 329, 3) := dt_Ref_doWrite_c3 8
theorem d_Ref_doWrite_150 : decode (jm_cod M_Ref_doWrite) 150 = .ok (.ifCond .eq 11, 3) := dt_Ref_doWrite_c3 9
theorem d_Ref_doWrite_153 : decode (jm_cod M_Ref_doWrite) 153 = .ok (.aload_n 0, 1) := dt_Ref_doWrite_c3 10
theorem d_Ref_doWrite_154 : decode (jm_cod M_Ref_doWrite) 154 = .ok (.getfield 220, 3) := dt_Ref_doWrite_c3 11
theorem d_Ref_doWrite_157 : decode (jm_cod M_Ref_doWrite) 157 = .ok (.iload 7, 2) := dt_Ref_doWrite_c3 12
theorem d_Ref_doWrite_159 : decode (jm_cod M_Ref_doWrite) 159 = .ok (.iconst (-1), 1) := dt_Ref_doWrite_c3 13
theorem d_Ref_doWrite_160 : decode (jm_cod M_Ref_doWrite) 160 = .ok (.iastore, 1) := dt_Ref_doWrite_c3 14
theorem d_Ref_doWrite_161 : decode (jm_cod M_Ref_doWrite) 161 = .ok (.aload_n 0, 1) := dt_Ref_doWrite_c3 15
theorem d_Ref_doWrite_162 : decode (jm_cod M_Ref_doWrite) 162 = .ok (.getfield 172, 3) := dt_Ref_doWrite_c3 16
theorem d_Ref_doWrite_165 : decode (jm_cod M_Ref_doWrite) 165 = .ok (.iload_n 2, 1) := dt_Ref_doWrite_c3 17
theorem d_Ref_doWrite_166 : decode (jm_cod M_Ref_doWrite) 166 = .ok (.iload 6, 2) := dt_Ref_doWrite_c3 18
theorem d_Ref_doWrite_168 : decode (jm_cod M_Ref_doWrite) 168 = .ok (.ifCond .eq 7, 3) := dt_Ref_doWrite_c3 19
theorem d_Ref_doWrite_171 : decode (jm_cod M_Ref_doWrite) 171 = .ok (.iconst 2, 1) := dt_Ref_doWrite_c3 20
theorem d_Ref_doWrite_172 : decode (jm_cod M_Ref_doWrite) 172 = .ok (.goto 20, 3) := dt_Ref_doWrite_c3 21
theorem d_Ref_doWrite_175 : decode (jm_cod M_Ref_doWrite) 175 = .ok (.lload_n 3, 1) := dt_Ref_doWrite_c3 22
theorem d_Ref_doWrite_176 : decode (jm_cod M_Ref_doWrite) 176 = .ok (.invokestatic 329, 3) := dt_Ref_doWrite_c3 23
def tab_Ref_doWrite_c4 : List (Nat × Instr × Nat) := [(179, .ifCond .eq 12, 3), (182, .iload 8, 2), (184, .ifCond .eq 7, 3), (187, .iconst 1, 1), (188, .goto 4, 3), (191, .iconst 0, 1), (192, .iastore, 1), (193, .iload 6, 2), (195, .ifCond .ne 15, 3), (198, .lload_n 3, 1), (199, .invokestatic 329, 3), (202, .ifCond .eq 9, 3), (205, .iload 8, 2), (207, .ifCond .ne 4, 3), (210, .return_, 1), (211, .iconst 0, 1), (212, .istore 9, 2), (214, .iload 9, 2), (216, .iload 5, 2), (218, .if_icmp .ge 93, 3), (221, .iconst 0, 1), (222, .istore 10, 2), (224, .iload 10, 2), (226, .bipush 8, 2)]
theorem dt_Ref_doWrite_c4 (i : Nat) : decode (jm_cod M_Ref_doWrite) (tab_Ref_doWrite_c4.getD i (179, .ifCond .eq 12, 3)).1 = .ok ((tab_Ref_doWrite_c4.getD i (179, .ifCond .eq 12, 3)).2.1, (tab_Ref_doWrite_c4.getD i (179, .ifCond .eq 12, 3)).2.2) := j_tab (by decide +kernel) i
theorem d_Ref_doWrite_179 : decode (jm_cod M_Ref_doWrite) 179 = .ok (.ifCond .eq 12, 3) := dt_Ref_doWrite_c4 0
theorem d_Ref_doWrite_182 : decode (jm_cod M_Ref_doWrite) 182 = .ok (.iload 8, 2) := dt_Ref_doWrite_c4 1
theorem d_Ref_doWrite_184 : decode (jm_cod M_Ref_doWrite) 184 = .ok (.ifCond .eq 7, 3) := dt_Ref_doWrite_c4 2
theorem d_Ref_doWrite_187 : decode (jm_cod M_Ref_doWrite) 187 = .ok (.iconst 1, 1) := dt_Ref_doWrite_c4 3
theorem d_Ref_doWrite_188 : decode (jm_cod M_Ref_doWrite) 188 = .ok (.goto 4, 3) := dt_Ref_doWrite_c4 4
theorem d_Ref_doWrite_191 : decode (jm_cod M_Ref_doWrite) 191 = .ok (.iconst 0, 1) := dt_Ref_doWrite_c4 5
theorem d_Ref_doWrite_192 : decode (jm_cod M_Ref_doWrite) 192 = .ok (.iastore, 1) := dt_Ref_doWrite_c4 6
theorem d_Ref_doWrite_193 : decode (jm_cod M_Ref_doWrite) 193 = .ok (.iload 6, 2) := dt_Ref_doWrite_c4 7
theorem d_Ref_doWrite_195 : decode (jm_cod M_Ref_doWrite) 195 = .ok (.ifCond .ne 15, 3) := dt_Ref_doWrite_c4 8
theorem d_Ref_doWrite_198 : decode (jm_cod M_Ref_doWrite) 198 = .ok (.lload_n 3, 1) := dt_Ref_doWrite_c4 9
theorem d_Ref_doWrite_199 : decode (jm_cod M_Ref_doWrite) 199 = .ok (.invokestatic 329, 3) := dt_Ref_doWrite_c4 10
theorem d_Ref_doWrite_202 : decode (jm_cod M_Ref_doWrite) 202 = .ok (.ifCond .eq 9, 3) := dt_Ref_doWrite_c4 11
theorem d_Ref_doWrite_205 : decode (jm_cod M_Ref_doWrite) 205 = .ok (.iload 8, 2) := dt_Ref_doWrite_c4 12
theorem d_Ref_doWrite_207 : decode (jm_cod M_Ref_doWrite) 207 = .ok (.ifCond .ne 4, 3) := dt_Ref_doWrite_c4 13
theorem d_Ref_doWrite_210 : decode (jm_cod M_Ref_doWrite) 210 = .ok (.return_, 1) := dt_Ref_doWrite_c4 14
theorem d_Ref_doWrite_211 : decode (jm_cod M_Ref_doWrite) 211 = .ok (.iconst 0, 1) := dt_Ref_doWrite_c4 15
theorem d_Ref_doWrite_212 : decode (jm_cod M_Ref_doWrite) 212 = .ok (.istore 9, 2) := dt_Ref_doWrite_c4 16
theorem d_Ref_doWrite_214 : decode (jm_cod M_Ref_doWrite) 214 = .ok (.iload 9, 2) := dt_Ref_doWrite_c4 17
theorem d_Ref_doWrite_216 : decode (jm_cod M_Ref_doWrite) 216 = .ok (.iload 5, 2) := dt_Ref_doWrite_c4 18
theorem d_Ref_doWrite_218 : decode (jm_cod M_Ref_doWrite) 218 = .ok (.if_icmp .ge 93, 3) := dt_Ref_doWrite_c4 19
theorem d_Ref_doWrite_221 : decode (jm_cod M_Ref_doWrite) 221 = .ok (.iconst 0, 1) := dt_Ref_doWrite_c4 20
theorem d_Ref_doWrite_222 : decode (jm_cod M_Ref_doWrite) 222 = .ok (.istore 10, 2) := dt_Ref_doWrite_c4 21
theorem d_Ref_doWrite_224 : decode (jm_cod M_Ref_doWrite) 224 = .ok (.iload 10, 2) := dt_Ref_doWrite_c4 22
theorem d_Ref_doWrite_226 : decode (jm_cod M_Ref_doWrite) 226 = .ok (.bipush 8, 2) := dt_Ref_doWrite_c4 23
def tab_Ref_doWrite_c5 : List (Nat × Instr × Nat) := [(228, .if_icmp .ge 77, 3), (231, .aload_n 0, 1), (232, .getfield 178, 3), (235, .bipush 16, 2), (237, .iload_n 2, 1), (238, .imul, 1), (239, .iload 9, 2), (241, .iadd, 1), (242, .iaload, 1), (243, .iload 10, 2), (245, .ishr, 1), (246, .iconst 1, 1), (247, .iand, 1), (248, .iconst 1, 1), (249, .if_icmp .ne 50, 3), (252, .lload_n 3, 1), (253, .iload 9, 2), (255, .iload 10, 2), (257, .invokestatic 487, 3), (260, .istore 11, 2), (262, .aload_n 0, 1), (263, .getfield 30, 3), (266, .iload 11, 2), (268, .aload_n 0, 1)]
theorem dt_Ref_doWrite_c5 (i : Nat) : decode (jm_cod M_Ref_doWrite) (tab_Ref_doWrite_c5.getD i (228, .if_icmp .ge 77, 3)).1 = .ok ((tab_Ref_doWrite_c5.getD i (228, .if_icmp .ge 77, 3)).2.1, (tab_Ref_doWrite_c5.getD i (228, .if_icmp .ge 77, 3)).2.2) := j_tab (by decide +kernel) i
theorem d_Ref_doWrite_228 : decode (jm_cod M_Ref_doWrite) 228 = .ok (.if_icmp .ge 77, 3) := dt_Ref_doWrite_c5 0
theorem d_Ref_doWrite_231 : decode (jm_cod M_Ref_doWrite) 231 = .ok (.aload_n 0, 1) := dt_Ref_doWrite_c5 1
theorem d_Ref_doWrite_232 : decode (jm_cod M_Ref_doWrite) 232 = .ok (.getfield 178, 3) := dt_Ref_doWrite_c5 2
theorem d_Ref_doWrite_235 : decode (jm_cod M_Ref_doWrite) 235 = .ok (.bipush 16, 2) := dt_Ref_doWrite_c5 3
theorem d_Ref_doWrite_237 : decode (jm_cod M_Ref_doWrite) 237 = .ok (.iload_n 2, 1) := dt_Ref_doWrite_c5 4
theorem d_Ref_doWrite_238 : decode (jm_cod M_Ref_doWrite) 238 = .ok (.imul, 1) := dt_Ref_doWrite_c5 5
theorem d_Ref_doWrite_239 : decode (jm_cod M_Ref_doWrite) 239 = .ok (.iload 9, 2) := dt_Ref_doWrite_c5 6
theorem d_Ref_doWrite_241 : decode (jm_cod M_Ref_doWrite) 241 = .ok (.iadd, 1) := dt_Ref_doWrite_c5 7
theorem d_Ref_doWrite_242 : decode (jm_cod M_Ref_doWrite) 242 = .ok (.iaload, 1) := dt_Ref_doWrite_c5 8
theorem d_Ref_doWrite_243 : decode (jm_cod M_Ref_doWrite) 243 = .ok (.iload 10, 2) := dt_Ref_doWrite_c5 9
theorem d_Ref_doWrite_245 : decode (jm_cod M_Ref_doWrite) 245 = .ok (.ishr, 1) := dt_Ref_doWrite_c5 10
theorem d_Ref_doWrite_246 : decode (jm_cod M_Ref_doWrite) 246 = .ok (.iconst 1, 1) := dt_Ref_doWrite_c5 11
theorem d_Ref_doWrite_247 : decode (jm_cod M_Ref_doWrite) 247 = .ok (.iand, 1) := dt_Ref_doWrite_c5 12
theorem d_Ref_doWrite_248 : decode (jm_cod M_Ref_doWrite) 248 = .ok (.iconst 1, 1) := dt_Ref_doWrite_c5 13
theorem d_Ref_doWrite_249 : decode (jm_cod M_Ref_doWrite) 249 = .ok (.if_icmp .ne 50, 3) := dt_Ref_doWrite_c5 14
theorem d_Ref_doWrite_252 : decode (jm_cod M_Ref_doWrite) 252 = .ok (.lload_n 3, 1) := dt_Ref_doWrite_c5 15
theorem d_Ref_doWrite_253 : decode (jm_cod M_Ref_doWrite) 253 = .ok (.iload 9, 2) := dt_Ref_doWrite_c5 16
theorem d_Ref_doWrite_255 : decode (jm_cod M_Ref_doWrite) 255 = .ok (.iload 10, 2) := dt_Ref_doWrite_c5 17
theorem d_Ref_doWrite_257 : decode (jm_cod M_Ref_doWrite) 257 = .ok (.invokestatic 487, 3) := dt_Ref_doWrite_c5 18
theorem d_Ref_doWrite_260 : decode (jm_cod M_Ref_doWrite) 260 = .ok (.istore 11, 2) := dt_Ref_doWrite_c5 19
theorem d_Ref_doWrite_262 : decode (jm_cod M_Ref_doWrite) 262 = .ok (.aload_n 0, 1) := dt_Ref_doWrite_c5 20
theorem d_Ref_doWrite_263 : decode (jm_cod M_Ref_doWrite) 263 = .ok (.getfield 30, 3) := dt_Ref_doWrite_c5 21
theorem d_Ref_doWrite_266 : decode (jm_cod M_Ref_doWrite) 266 = .ok (.iload 11, 2) := dt_Ref_doWrite_c5 22
theorem d_Ref_doWrite_268 : decode (jm_cod M_Ref_doWrite) 268 = .ok (.aload_n 0, 1) := dt_Ref_doWrite_c5 23
def tab_Ref_doWrite_c6 : List (Nat × Instr × Nat) := [(269, .getfield 175, 3), (272, .bipush 16, 2), (274, .iload_n 2, 1), (275, .imul, 1), (276, .iload 9, 2), (278, .iadd, 1), (279, .laload, 1), (280, .bipush 8, 2), (282, .iload 10, 2), (284, .imul, 1), (285, .lshr, 1), (286, .l2i, 1), (287, .sipush 255, 3), (290, .iand, 1), (291, .iastore, 1), (292, .aload_n 0, 1), (293, .iload_n 1, 1), (294, .iload 11, 2), (296, .invokevirtual 491, 3), (299, .iinc 10 1, 3), (302, .goto (-78), 3), (305, .iinc 9 1, 3), (308, .goto (-94), 3), (311, .return_, 1)]
theorem dt_Ref_doWrite_c6 (i : Nat) : decode (jm_cod M_Ref_doWrite) (tab_Ref_doWrite_c6.getD i (269, .getfield 175, 3)).1 = .ok ((tab_Ref_doWrite_c6.getD i (269, .getfield 175, 3)).2.1, (tab_Ref_doWrite_c6.getD i (269, .getfield 175, 3)).2.2) := j_tab (by decide +kernel) i
theorem d_Ref_doWrite_269 : decode (jm_cod M_Ref_doWrite) 269 = .ok (.getfield 175, 3) := dt_Ref_doWrite_c6 0
theorem d_Ref_doWrite_272 : decode (jm_cod M_Ref_doWrite) 272 = .ok (.bipush 16, 2) := dt_Ref_doWrite_c6 1
theorem d_Ref_doWrite_274 : decode (jm_cod M_Ref_doWrite) 274 = .ok (.iload_n 2, 1) := dt_Ref_doWrite_c6 2
theorem d_Ref_doWrite_275 : decode (jm_cod M_Ref_doWrite) 275 = .ok (.imul, 1) := dt_Ref_doWrite_c6 3
theorem d_Ref_doWrite_276 : decode (jm_cod M_Ref_doWrite) 276 = .ok (.iload 9, 2) := dt_Ref_doWrite_c6 4
theorem d_Ref_doWrite_278 : decode (jm_cod M_Ref_doWrite) 278 = .ok (.iadd, 1) := dt_Ref_doWrite_c6 5
theorem d_Ref_doWrite_279 : decode (jm_cod M_Ref_doWrite) 279 = .ok (.laload, 1) := dt_Ref_doWrite_c6 6
theorem d_Ref_doWrite_280 : decode (jm_cod M_Ref_doWrite) 280 = .ok (.bipush 8, 2) := dt_Ref_doWrite_c6 7
theorem d_Ref_doWrite_282 : decode (jm_cod M_Ref_doWrite) 282 = .ok (.iload 10, 2) := dt_Ref_doWrite_c6 8
theorem d_Ref_doWrite_284 : decode (jm_cod M_Ref_doWrite) 284 = .ok (.imul, 1) := dt_Ref_doWrite_c6 9
theorem d_Ref_doWrite_285 : decode (jm_cod M_Ref_doWrite) 285 = .ok (.lshr, 1) := dt_Ref_doWrite_c6 10
theorem d_Ref_doWrite_286 : decode (jm_cod M_Ref_doWrite) 286 = .ok (.l2i, 1) := dt_Ref_doWrite_c6 11
theorem d_Ref_doWrite_287 : decode (jm_cod M_Ref_doWrite) 287 = .ok (.sipush 255, 3) := dt_Ref_doWrite_c6 12
theorem d_Ref_doWrite_290 : decode (jm_cod M_Ref_doWrite) 290 = .ok (.iand, 1) := dt_Ref_doWrite_c6 13
theorem d_Ref_doWrite_291 : decode (jm_cod M_Ref_doWrite) 291 = .ok (.iastore, 1) := dt_Ref_doWrite_c6 14
theorem d_Ref_doWrite_292 : decode (jm_cod M_Ref_doWrite) 292 = .ok (.aload_n 0, 1) := dt_Ref_doWrite_c6 15
theorem d_Ref_doWrite_293 : decode (jm_cod M_Ref_doWrite) 293 = .ok (.iload_n 1, 1) := dt_Ref_doWrite_c6 16
theorem d_Ref_doWrite_294 : decode (jm_cod M_Ref_doWrite) 294 = .ok (.iload 11, 2) := dt_Ref_doWrite_c6 17
theorem d_Ref_doWrite_296 : decode (jm_cod M_Ref_doWrite) 296 = .ok (.invokevirtual 491, 3) := dt_Ref_doWrite_c6 18
theorem d_Ref_doWrite_299 : decode (jm_cod M_Ref_doWrite) 299 = .ok (.iinc 10 1, 3) := dt_Ref_doWrite_c6 19
theorem d_Ref_doWrite_302 : decode (jm_cod M_Ref_doWrite) 302 = .ok (.goto (-78), 3) := dt_Ref_doWrite_c6 20
theorem d_Ref_doWrite_305 : decode (jm_cod M_Ref_doWrite) 305 = .ok (.iinc 9 1, 3) := dt_Ref_doWrite_c6 21
theorem d_Ref_doWrite_308 : decode (jm_cod M_Ref_doWrite) 308 = .ok (.goto (-94), 3) := dt_Ref_doWrite_c6 22
theorem d_Ref_doWrite_311 : decode (jm_cod M_Ref_doWrite) 311 = .ok (.return_, 1) := dt_Ref_doWrite_c6 23
def tab_Ref_byteAt_c0 : List (Nat × Instr × Nat) := [(0, .lload_n 0, 1), (1, .iload_n 2, 1), (2, .invokestatic 366, 3), (5, .istore 4, 2), (7, .iload 4, 2), (9, .iload 4, 2), (11, .bipush 8, 2), (13, .irem, 1), (14, .isub, 1), (15, .iload_n 3, 1), (16, .iadd, 1), (17, .ireturn, 1)]
theorem dt_Ref_byteAt_c0 (i : Nat) : decode (jm_cod M_Ref_byteAt) (tab_Ref_byteAt_c0.getD i (0, .lload_n 0, 1)).1 = .ok ((tab_Ref_byteAt_c0.getD i (0, .lload_n 0, 1)).2.1, (tab_Ref_byteAt_c0.getD i (0, .lload_n 0, 1)).2.2) := j_tab (by decide +kernel) i
theorem d_Ref_byteAt_0 : decode (jm_cod M_Ref_byteAt) 0 = .ok (.lload_n 0, 1) := dt_Ref_byteAt_c0 0
theorem d_Ref_byteAt_1 : decode (jm_cod M_Ref_byteAt) 1 = .ok (.iload_n 2, 1) := dt_Ref_byteAt_c0 1
theorem d_Ref_byteAt_2 : decode (jm_cod M_Ref_byteAt) 2 = .ok (.invokestatic 366, 3) := dt_Ref_byteAt_c0 2
theorem d_Ref_byteAt_5 : decode (jm_cod M_Ref_byteAt) 5 = .ok (.istore 4, 2) := dt_Ref_byteAt_c0 3
theorem d_Ref_byteAt_7 : decode (jm_cod M_Ref_byteAt) 7 = .ok (.iload 4, 2) := dt_Ref_byteAt_c0 4
theorem d_Ref_byteAt_9 : decode (jm_cod M_Ref_byteAt) 9 = .ok (.iload 4, 2) := dt_Ref_byteAt_c0 5
theorem d_Ref_byteAt_11 : decode (jm_cod M_Ref_byteAt) 11 = .ok (.bipush 8, 2) := dt_Ref_byteAt_c0 6
theorem d_Ref_byteAt_13 : decode (jm_cod M_Ref_byteAt) 13 = .ok (.irem, 1) := dt_Ref_byteAt_c0 7
theorem d_Ref_byteAt_14 : decode (jm_cod M_Ref_byteAt) 14 = .ok (.isub, 1) := dt_Ref_byteAt_c0 8
theorem d_Ref_byteAt_15 : decode (jm_cod M_Ref_byteAt) 15 = .ok (.iload_n 3, 1) := dt_Ref_byteAt_c0 9
theorem d_Ref_byteAt_16 : decode (jm_cod M_Ref_byteAt) 16 = .ok (.iadd, 1) := dt_Ref_byteAt_c0 10
theorem d_Ref_byteAt_17 : decode (jm_cod M_Ref_byteAt) 17 = .ok (.ireturn, 1) := dt_Ref_byteAt_c0 11
def tab_Ref_takeRights_c0 : List (Nat × Instr × Nat) := [(0, .bipush 64, 2), (2, .iload_n 1, 1), (3, .imul, 1), (4, .istore_n 3, 1), (5, .iload_n 3, 1), (6, .bipush 64, 2), (8, .iload_n 1, 1), (9, .imul, 1), (10, .bipush 64, 2), (12, .iadd, 1), (13, .if_icmp .ge 53, 3), (16, .aload_n 0, 1), (17, .getfield 220, 3), (20, .iload_n 3, 1), (21, .iaload, 1), (22, .iconst (-1), 1), (23, .if_icmp .eq 37, 3), (26, .iload_n 2, 1), (27, .aload_n 0, 1), (28, .getfield 220, 3), (31, .iload_n 3, 1), (32, .iaload, 1), (33, .if_icmp .lt 27, 3), (36, .iload_n 2, 1)]
theorem dt_Ref_takeRights_c0 (i : Nat) : decode (jm_cod M_Ref_takeRights) (tab_Ref_takeRights_c0.getD i (0, .bipush 64, 2)).1 = .ok ((tab_Ref_takeRights_c0.getD i (0, .bipush 64, 2)).2.1, (tab_Ref_takeRights_c0.getD i (0, .bipush 64, 2)).2.2) := j_tab (by decide +kernel) i
theorem d_Ref_takeRights_0 : decode (jm_cod M_Ref_takeRights) 0 = .ok (.bipush 64, 2) := dt_Ref_takeRights_c0 0
theorem d_Ref_takeRights_2 : decode (jm_cod M_Ref_takeRights) 2 = .ok (.iload_n 1, 1) := dt_Ref_takeRights_c0 1
theorem d_Ref_takeRights_3 : decode (jm_cod M_Ref_takeRights) 3 = .ok (.imul, 1) := dt_Ref_takeRights_c0 2
theorem d_Ref_takeRights_4 : decode (jm_cod M_Ref_takeRights) 4 = .ok (.istore_n 3, 1) := dt_Ref_takeRights_c0 3
theorem d_Ref_takeRights_5 : decode (jm_cod M_Ref_takeRights) 5 = .ok (.iload_n 3, 1) := dt_Ref_takeRights_c0 4
theorem d_Ref_takeRights_6 : decode (jm_cod M_Ref_takeRights) 6 = .ok (.bipush 64, 2) := dt_Ref_takeRights_c0 5
theorem d_Ref_takeRights_8 : decode (jm_cod M_Ref_takeRights) 8 = .ok (.iload_n 1, 1) := dt_Ref_takeRights_c0 6
theorem d_Ref_takeRights_9 : decode (jm_cod M_Ref_takeRights) 9 = .ok (.imul, 1) := dt_Ref_takeRights_c0 7
theorem d_Ref_takeRights_10 : decode (jm_cod M_Ref_takeRights) 10 = .ok (.bipush 64, 2) := dt_Ref_takeRights_c0 8
theorem d_Ref_takeRights_12 : decode (jm_cod M_Ref_takeRights) 12 = .ok (.iadd, 1) := dt_Ref_takeRights_c0 9
theorem d_Ref_takeRights_13 : decode (jm_cod M_Ref_takeRights) 13 = .ok (.if_icmp .ge 53, 3) := dt_Ref_takeRights_c0 10
theorem d_Ref_takeRights_16 : decode (jm_cod M_Ref_takeRights) 16 = .ok (.aload_n 0, 1) := dt_Ref_takeRights_c0 11
theorem d_Ref_takeRights_17 : decode (jm_cod M_Ref_takeRights) 17 = .ok (.getfield 220, 3) := dt_Ref_takeRights_c0 12
theorem d_Ref_takeRights_20 : decode (jm_cod M_Ref_takeRights) 20 = .ok (.iload_n 3, 1) := dt_Ref_takeRights_c0 13
theorem d_Ref_takeRights_21 : decode (jm_cod M_Ref_takeRights) 21 = .ok (.iaload, 1) := dt_Ref_takeRights_c0 14
theorem d_Ref_takeRights_22 : decode (jm_cod M_Ref_takeRights) 22 = .ok (.iconst (-1), 1) := dt_Ref_takeRights_c0 15
theorem d_Ref_takeRights_23 : decode (jm_cod M_Ref_takeRights) 23 = .ok (.if_icmp .eq 37, 3) := dt_Ref_takeRights_c0 16
theorem d_Ref_takeRights_26 : decode (jm_cod M_Ref_takeRights) 26 = .ok (.iload_n 2, 1) := dt_Ref_takeRights_c0 17
theorem d_Ref_takeRights_27 : decode (jm_cod M_Ref_takeRights) 27 = .ok (.aload_n 0, 1) := dt_Ref_takeRights_c0 18
theorem d_Ref_takeRights_28 : decode (jm_cod M_Ref_takeRights) 28 = .ok (.getfield 220, 3) := dt_Ref_takeRights_c0 19
theorem d_Ref_takeRights_31 : decode (jm_cod M_Ref_takeRights) 31 = .ok (.iload_n 3, 1) := dt_Ref_takeRights_c0 20
theorem d_Ref_takeRights_32 : decode (jm_cod M_Ref_takeRights) 32 = .ok (.iaload, 1) := dt_Ref_takeRights_c0 21
theorem d_Ref_takeRights_33 : decode (jm_cod M_Ref_takeRights) 33 = .ok (.if_icmp .lt 27, 3) := dt_Ref_takeRights_c0 22
theorem d_Ref_takeRights_36 : decode (jm_cod M_Ref_takeRights) 36 = .ok (.iload_n 2, 1) := dt_Ref_takeRights_c0 23
def tab_Ref_takeRights_c1 : List (Nat × Instr × Nat) := [(37, .aload_n 0, 1), (38, .getfield 220, 3), (41, .iload_n 3, 1), (42, .iaload, 1), (43, .aload_n 0, 1), (44, .getfield 223, 3), (47, .iload_n 3, 1), (48, .iaload, 1), (49, .iadd, 1), (50, .if_icmp .ge 10, 3), (53, .aload_n 0, 1), (54, .getfield 220, 3), (57, .iload_n 3, 1), (58, .iconst (-1), 1), (59, .iastore, 1), (60, .iinc 3 1, 3), (63, .goto (-58), 3), (66, .return_, 1)]
theorem dt_Ref_takeRights_c1 (i : Nat) : decode (jm_cod M_Ref_takeRights) (tab_Ref_takeRights_c1.getD i (37, .aload_n 0, 1)).1 = .ok ((tab_Ref_takeRights_c1.getD i (37, .aload_n 0, 1)).2.1, (tab_Ref_takeRights_c1.getD i (37, .aload_n 0, 1)).2.2) := j_tab (by decide +kernel) i
theorem d_Ref_takeRights_37 : decode (jm_cod M_Ref_takeRights) 37 = .ok (.aload_n 0, 1) := dt_Ref_takeRights_c1 0
theorem d_Ref_takeRights_38 : decode (jm_cod M_Ref_takeRights) 38 = .ok (.getfield 220, 3) := dt_Ref_takeRights_c1 1
theorem d_Ref_takeRights_41 : decode (jm_cod M_Ref_takeRights) 41 = .ok (.iload_n 3, 1) := dt_Ref_takeRights_c1 2
theorem d_Ref_takeRights_42 : decode (jm_cod M_Ref_takeRights) 42 = .ok (.iaload, 1) := dt_Ref_takeRights_c1 3
theorem d_Ref_takeRights_43 : decode (jm_cod M_Ref_takeRights) 43 = .ok (.aload_n 0, 1) := dt_Ref_takeRights_c1 4
theorem d_Ref_takeRights_44 : decode (jm_cod M_Ref_takeRights) 44 = .ok (.getfield 223, 3) := dt_Ref_takeRights_c1 5
theorem d_Ref_takeRights_47 : decode (jm_cod M_Ref_takeRights) 47 = .ok (.iload_n 3, 1) := dt_Ref_takeRights_c1 6
theorem d_Ref_takeRights_48 : decode (jm_cod M_Ref_takeRights) 48 = .ok (.iaload, 1) := dt_Ref_takeRights_c1 7
theorem d_Ref_takeRights_49 : decode (jm_cod M_Ref_takeRights) 49 = .ok (.iadd, 1) := dt_Ref_takeRights_c1 8
theorem d_Ref_takeRights_50 : decode (jm_cod M_Ref_takeRights) 50 = .ok (.if_icmp .ge 10, 3) := dt_Ref_takeRights_c1 9
theorem d_Ref_takeRights_53 : decode (jm_cod M_Ref_takeRights) 53 = .ok (.aload_n 0, 1) := dt_Ref_takeRights_c1 10
theorem d_Ref_takeRights_54 : decode (jm_cod M_Ref_takeRights) 54 = .ok (.getfield 220, 3) := dt_Ref_takeRights_c1 11
theorem d_Ref_takeRights_57 : decode (jm_cod M_Ref_takeRights) 57 = .ok (.iload_n 3, 1) := dt_Ref_takeRights_c1 12
theorem d_Ref_takeRights_58 : decode (jm_cod M_Ref_takeRights) 58 = .ok (.iconst (-1), 1) := dt_Ref_takeRights_c1 13
theorem d_Ref_takeRights_59 : decode (jm_cod M_Ref_takeRights) 59 = .ok (.iastore, 1) := dt_Ref_takeRights_c1 14
theorem d_Ref_takeRights_60 : decode (jm_cod M_Ref_takeRights) 60 = .ok (.iinc 3 1, 3) := dt_Ref_takeRights_c1 15
theorem d_Ref_takeRights_63 : decode (jm_cod M_Ref_takeRights) 63 = .ok (.goto (-58), 3) := dt_Ref_takeRights_c1 16
theorem d_Ref_takeRights_66 : decode (jm_cod M_Ref_takeRights) 66 = .ok (.return_, 1) := dt_Ref_takeRights_c1 17
def tab_Ref_readComes_c0 : List (Nat × Instr × Nat) := [(0, .aload_n 0, 1), (1, .getfield 187, 3), (4, .iload_n 1, 1), (5, .invokestatic 480, 3), (8, .istore 4, 2), (10, .aload_n 0, 1), (11, .getfield 187, 3), (14, .iload 4, 2), (16, .iconst 1, 1), (17, .bastore, 1), (18, .aload_n 0, 1), (19, .getfield 184, 3), (22, .iconst 4, 1), (23, .iload_n 1, 1), (24, .imul, 1), (25, .aload_n 0, 1), (26, .getfield 181, 3), (29, .iload_n 1, 1), (30, .iaload, 1), (31, .iadd, 1), (32, .iload 4, 2), (34, .iastore, 1), (35, .aload_n 0, 1), (36, .getfield 181, 3)]
theorem dt_Ref_readComes_c0 (i : Nat) : decode (jm_cod M_Ref_readComes) (tab_Ref_readComes_c0.getD i (0, .aload_n 0, 1)).1 = .ok ((tab_Ref_readComes_c0.getD i (0, .aload_n 0, 1)).2.1, (tab_Ref_readComes_c0.getD i (0, .aload_n 0, 1)).2.2) := j_tab (by decide +kernel) i
theorem d_Ref_readComes_0 : decode (jm_cod M_Ref_readComes) 0 = .ok (.aload_n 0, 1) := dt_Ref_readComes_c0 0
theorem d_Ref_readComes_1 : decode (jm_cod M_Ref_readComes) 1 = .ok (.getfield 187, 3) := dt_Ref_readComes_c0 1
theorem d_Ref_readComes_4 : decode (jm_cod M_Ref_readComes) 4 = .ok (.iload_n 1, 1) := dt_Ref_readComes_c0 2
theorem d_Ref_readComes_5 : decode (jm_cod M_Ref_readComes) 5 = .ok (.invokestatic 480, 3) := dt_Ref_readComes_c0 3
theorem d_Ref_readComes_8 : decode (jm_cod M_Ref_readComes) 8 = .ok (.istore 4, 2) := dt_Ref_readComes_c0 4
theorem d_Ref_readComes_10 : decode (jm_cod M_Ref_readComes) 10 = .ok (.aload_n 0, 1) := dt_Ref_readComes_c0 5
theorem d_Ref_readComes_11 : decode (jm_cod M_Ref_readComes) 11 = .ok (.getfield 187, 3) := dt_Ref_readComes_c0 6
theorem d_Ref_readComes_14 : decode (jm_cod M_Ref_readComes) 14 = .ok (.iload 4, 2) := dt_Ref_readComes_c0 7
theorem d_Ref_readComes_16 : decode (jm_cod M_Ref_readComes) 16 = .ok (.iconst 1, 1) := dt_Ref_readComes_c0 8
theorem d_Ref_readComes_17 : decode (jm_cod M_Ref_readComes) 17 = .ok (.bastore, 1) := dt_Ref_readComes_c0 9
theorem d_Ref_readComes_18 : decode (jm_cod M_Ref_readComes) 18 = .ok (.aload_n 0, 1) := dt_Ref_readComes_c0 10
theorem d_Ref_readComes_19 : decode (jm_cod M_Ref_readComes) 19 = .ok (.getfield 184, 3) := dt_Ref_readComes_c0 11
theorem d_Ref_readComes_22 : decode (jm_cod M_Ref_readComes) 22 = .ok (.iconst 4, 1) := dt_Ref_readComes_c0 12
theorem d_Ref_readComes_23 : decode (jm_cod M_Ref_readComes) 23 = .ok (.iload_n 1, 1) := dt_Ref_readComes_c0 13
theorem d_Ref_readComes_24 : decode (jm_cod M_Ref_readComes) 24 = .ok (.imul, 1) := dt_Ref_readComes_c0 14
theorem d_Ref_readComes_25 : decode (jm_cod M_Ref_readComes) 25 = .ok (.aload_n 0, 1) := dt_Ref_readComes_c0 15
theorem d_Ref_readComes_26 : decode (jm_cod M_Ref_readComes) 26 = .ok (.getfield 181, 3) := dt_Ref_readComes_c0 16
theorem d_Ref_readComes_29 : decode (jm_cod M_Ref_readComes) 29 = .ok (.iload_n 1, 1) := dt_Ref_readComes_c0 17
theorem d_Ref_readComes_30 : decode (jm_cod M_Ref_readComes) 30 = .ok (.iaload, 1) := dt_Ref_readComes_c0 18
theorem d_Ref_readComes_31 : decode (jm_cod M_Ref_readComes) 31 = .ok (.iadd, 1) := dt_Ref_readComes_c0 19
theorem d_Ref_readComes_32 : decode (jm_cod M_Ref_readComes) 32 = .ok (.iload 4, 2) := dt_Ref_readComes_c0 20
theorem d_Ref_readComes_34 : decode (jm_cod M_Ref_readComes) 34 = .ok (.iastore, 1) := dt_Ref_readComes_c0 21
theorem d_Ref_readComes_35 : decode (jm_cod M_Ref_readComes) 35 = .ok (.aload_n 0, 1) := dt_Ref_readComes_c0 22
theorem d_Ref_readComes_36 : decode (jm_cod M_Ref_readComes) 36 = .ok (.getfield 181, 3) := dt_Ref_readComes_c0 23
def tab_Ref_readComes_c1 : List (Nat × Instr × Nat) := [(39, .iload_n 1, 1), (40, .dup2, 1), (41, .iaload, 1), (42, .iconst 1, 1), (43, .iadd, 1), (44, .iastore, 1), (45, .aload_n 0, 1), (46, .getfield 190, 3), (49, .iload 4, 2), (51, .lload_n 2, 1), (52, .lastore, 1), (53, .aload_n 0, 1), (54, .getfield 193, 3), (57, .iload 4, 2), (59, .iconst 0, 1), (60, .iastore, 1), (61, .aload_n 0, 1), (62, .getfield 196, 3), (65, .iload 4, 2), (67, .aload_n 0, 1), (68, .getfield 348, 3), (71, .iastore, 1), (72, .aload_n 0, 1), (73, .getfield 199, 3)]
theorem dt_Ref_readComes_c1 (i : Nat) : decode (jm_cod M_Ref_readComes) (tab_Ref_readComes_c1.getD i (39, .iload_n 1, 1)).1 = .ok ((tab_Ref_readComes_c1.getD i (39, .iload_n 1, 1)).2.1, (tab_Ref_readComes_c1.getD i (39, .iload_n 1, 1)).2.2) := j_tab (by decide +kernel) i
theorem d_Ref_readComes_39 : decode (jm_cod M_Ref_readComes) 39 = .ok (.iload_n 1, 1) := dt_Ref_readComes_c1 0
theorem d_Ref_readComes_40 : decode (jm_cod M_Ref_readComes) 40 = .ok (.dup2, 1) := dt_Ref_readComes_c1 1
theorem d_Ref_readComes_41 : decode (jm_cod M_Ref_readComes) 41 = .ok (.iaload, 1) := dt_Ref_readComes_c1 2
theorem d_Ref_readComes_42 : decode (jm_cod M_Ref_readComes) 42 = .ok (.iconst 1, 1) := dt_Ref_readComes_c1 3
theorem d_Ref_readComes_43 : decode (jm_cod M_Ref_readComes) 43 = .ok (.iadd, 1) := dt_Ref_readComes_c1 4
theorem d_Ref_readComes_44 : decode (jm_cod M_Ref_readComes) 44 = .ok (.iastore, 1) := dt_Ref_readComes_c1 5
theorem d_Ref_readComes_45 : decode (jm_cod M_Ref_readComes) 45 = .ok (.aload_n 0, 1) := dt_Ref_readComes_c1 6
theorem d_Ref_readComes_46 : decode (jm_cod M_Ref_readComes) 46 = .ok (.getfield 190, 3) := dt_Ref_readComes_c1 7
theorem d_Ref_readComes_49 : decode (jm_cod M_Ref_readComes) 49 = .ok (.iload 4, 2) := dt_Ref_readComes_c1 8
theorem d_Ref_readComes_51 : decode (jm_cod M_Ref_readComes) 51 = .ok (.lload_n 2, 1) := dt_Ref_readComes_c1 9
theorem d_Ref_readComes_52 : decode (jm_cod M_Ref_readComes) 52 = .ok (.lastore, 1) := dt_Ref_readComes_c1 10
theorem d_Ref_readComes_53 : decode (jm_cod M_Ref_readComes) 53 = .ok (.aload_n 0, 1) := dt_Ref_readComes_c1 11
theorem d_Ref_readComes_54 : decode (jm_cod M_Ref_readComes) 54 = .ok (.getfield 193, 3) := dt_Ref_readComes_c1 12
theorem d_Ref_readComes_57 : decode (jm_cod M_Ref_readComes) 57 = .ok (.iload 4, 2) := dt_Ref_readComes_c1 13
theorem d_Ref_readComes_59 : decode (jm_cod M_Ref_readComes) 59 = .ok (.iconst 0, 1) := dt_Ref_readComes_c1 14
theorem d_Ref_readComes_60 : decode (jm_cod M_Ref_readComes) 60 = .ok (.iastore, 1) := dt_Ref_readComes_c1 15
theorem d_Ref_readComes_61 : decode (jm_cod M_Ref_readComes) 61 = .ok (.aload_n 0, 1) := dt_Ref_readComes_c1 16
theorem d_Ref_readComes_62 : decode (jm_cod M_Ref_readComes) 62 = .ok (.getfield 196, 3) := dt_Ref_readComes_c1 17
theorem d_Ref_readComes_65 : decode (jm_cod M_Ref_readComes) 65 = .ok (.iload 4, 2) := dt_Ref_readComes_c1 18
theorem d_Ref_readComes_67 : decode (jm_cod M_Ref_readComes) 67 = .ok (.aload_n 0, 1) := dt_Ref_readComes_c1 19
theorem d_Ref_readComes_68 : decode (jm_cod M_Ref_readComes) 68 = .ok (.getfield 348, 3) := dt_Ref_readComes_c1 20
theorem d_Ref_readComes_71 : decode (jm_cod M_Ref_readComes) 71 = .ok (.iastore, 1) := dt_Ref_readComes_c1 21
theorem d_Ref_readComes_72 : decode (jm_cod M_Ref_readComes) 72 = .ok (.aload_n 0, 1) := dt_Ref_readComes_c1 22
theorem d_Ref_readComes_73 : decode (jm_cod M_Ref_readComes) 73 = .ok (.getfield 199, 3) := dt_Ref_readComes_c1 23
def tab_Ref_readComes_c2 : List (Nat × Instr × Nat) := [(76, .iload 4, 2), (78, .aload_n 0, 1), (79, .getfield 208, 3), (82, .iload_n 1, 1), (83, .iaload, 1), (84, .iastore, 1), (85, .aload_n 0, 1), (86, .getfield 208, 3), (89, .iload_n 1, 1), (90, .dup2, 1), (91, .iaload, 1), (92, .iconst 1, 1), (93, .iadd, 1), (94, .iastore, 1), (95, .iconst 1, 1), (96, .istore 5, 2), (98, .iconst 0, 1), (99, .istore 6, 2), (101, .iload 6, 2), (103, .lload_n 2, 1), (104, .invokestatic 321, 3), (107, .if_icmp .ge 154, 3), (110, .aload_n 0, 1), (111, .lload_n 2, 1)]
theorem dt_Ref_readComes_c2 (i : Nat) : decode (jm_cod M_Ref_readComes) (tab_Ref_readComes_c2.getD i (76, .iload 4, 2)).1 = .ok ((tab_Ref_readComes_c2.getD i (76, .iload 4, 2)).2.1, (tab_Ref_readComes_c2.getD i (76, .iload 4, 2)).2.2) := j_tab (by decide +kernel) i
theorem d_Ref_readComes_76 : decode (jm_cod M_Ref_readComes) 76 = .ok (.iload 4, 2) := dt_Ref_readComes_c2 0
theorem d_Ref_readComes_78 : decode (jm_cod M_Ref_readComes) 78 = .ok (.aload_n 0, 1) := dt_Ref_readComes_c2 1
theorem d_Ref_readComes_79 : decode (jm_cod M_Ref_readComes) 79 = .ok (.getfield 208, 3) := dt_Ref_readComes_c2 2
theorem d_Ref_readComes_82 : decode (jm_cod M_Ref_readComes) 82 = .ok (.iload_n 1, 1) := dt_Ref_readComes_c2 3
theorem d_Ref_readComes_83 : decode (jm_cod M_Ref_readComes) 83 = .ok (.iaload, 1) := dt_Ref_readComes_c2 4
theorem d_Ref_readComes_84 : decode (jm_cod M_Ref_readComes) 84 = .ok (.iastore, 1) := dt_Ref_readComes_c2 5
theorem d_Ref_readComes_85 : decode (jm_cod M_Ref_readComes) 85 = .ok (.aload_n 0, 1) := dt_Ref_readComes_c2 6
theorem d_Ref_readComes_86 : decode (jm_cod M_Ref_readComes) 86 = .ok (.getfield 208, 3) := dt_Ref_readComes_c2 7
theorem d_Ref_readComes_89 : decode (jm_cod M_Ref_readComes) 89 = .ok (.iload_n 1, 1) := dt_Ref_readComes_c2 8
theorem d_Ref_readComes_90 : decode (jm_cod M_Ref_readComes) 90 = .ok (.dup2, 1) := dt_Ref_readComes_c2 9
theorem d_Ref_readComes_91 : decode (jm_cod M_Ref_readComes) 91 = .ok (.iaload, 1) := dt_Ref_readComes_c2 10
theorem d_Ref_readComes_92 : decode (jm_cod M_Ref_readComes) 92 = .ok (.iconst 1, 1) := dt_Ref_readComes_c2 11
theorem d_Ref_readComes_93 : decode (jm_cod M_Ref_readComes) 93 = .ok (.iadd, 1) := dt_Ref_readComes_c2 12
theorem d_Ref_readComes_94 : decode (jm_cod M_Ref_readComes) 94 = .ok (.iastore, 1) := dt_Ref_readComes_c2 13
theorem d_Ref_readComes_95 : decode (jm_cod M_Ref_readComes) 95 = .ok (.iconst 1, 1) := dt_Ref_readComes_c2 14
theorem d_Ref_readComes_96 : decode (jm_cod M_Ref_readComes) 96 = .ok (.istore 5, 2) := dt_Ref_readComes_c2 15
theorem d_Ref_readComes_98 : decode (jm_cod M_Ref_readComes) 98 = .ok (.iconst 0, 1) := dt_Ref_readComes_c2 16
theorem d_Ref_readComes_99 : decode (jm_cod M_Ref_readComes) 99 = .ok (.istore 6, 2) := dt_Ref_readComes_c2 17
theorem d_Ref_readComes_101 : decode (jm_cod M_Ref_readComes) 101 = .ok (.iload 6, 2) := dt_Ref_readComes_c2 18
theorem d_Ref_readComes_103 : decode (jm_cod M_Ref_readComes) 103 = .ok (.lload_n 2, 1) := dt_Ref_readComes_c2 19
theorem d_Ref_readComes_104 : decode (jm_cod M_Ref_readComes) 104 = .ok (.invokestatic 321, 3) := dt_Ref_readComes_c2 20
theorem d_Ref_readComes_107 : decode (jm_cod M_Ref_readComes) 107 = .ok (.if_icmp .ge 154, 3) := dt_Ref_readComes_c2 21
theorem d_Ref_readComes_110 : decode (jm_cod M_Ref_readComes) 110 = .ok (.aload_n 0, 1) := dt_Ref_readComes_c2 22
theorem d_Ref_readComes_111 : decode (jm_cod M_Ref_readComes) 111 = .ok (.lload_n 2, 1) := dt_Ref_readComes_c2 23
def tab_Ref_readComes_c3 : List (Nat × Instr × Nat) := [(112, .iload 6, 2), (114, .invokevirtual 494, 3), (117, .istore 7, 2), (119, .lload_n 2, 1), (120, .iload 6, 2), (122, .invokestatic 366, 3), (125, .istore 8, 2), (127, .lload_n 2, 1), (128, .invokestatic 318, 3), (131, .istore 9, 2), (133, .lconst 0, 1), (134, .lstore 10, 2), (136, .iload 8, 2), (138, .istore 12, 2), (140, .iload 12, 2), (142, .iload 8, 2), (144, .iload 8, 2), (146, .iload 9, 2), (148, .irem, 1), (149, .isub, 1), (150, .iload 9, 2), (152, .iadd, 1), (153, .if_icmp .ge 36, 3), (156, .iload 7, 2)]
theorem dt_Ref_readComes_c3 (i : Nat) : decode (jm_cod M_Ref_readComes) (tab_Ref_readComes_c3.getD i (112, .iload 6, 2)).1 = .ok ((tab_Ref_readComes_c3.getD i (112, .iload 6, 2)).2.1, (tab_Ref_readComes_c3.getD i (112, .iload 6, 2)).2.2) := j_tab (by decide +kernel) i
theorem d_Ref_readComes_112 : decode (jm_cod M_Ref_readComes) 112 = .ok (.iload 6, 2) := dt_Ref_readComes_c3 0
theorem d_Ref_readComes_114 : decode (jm_cod M_Ref_readComes) 114 = .ok (.invokevirtual 494, 3) := dt_Ref_readComes_c3 1
theorem d_Ref_readComes_117 : decode (jm_cod M_Ref_readComes) 117 = .ok (.istore 7, 2) := dt_Ref_readComes_c3 2
theorem d_Ref_readComes_119 : decode (jm_cod M_Ref_readComes) 119 = .ok (.lload_n 2, 1) := dt_Ref_readComes_c3 3
theorem d_Ref_readComes_120 : decode (jm_cod M_Ref_readComes) 120 = .ok (.iload 6, 2) := dt_Ref_readComes_c3 4
theorem d_Ref_readComes_122 : decode (jm_cod M_Ref_readComes) 122 = .ok (.invokestatic 366, 3) := dt_Ref_readComes_c3 5
theorem d_Ref_readComes_125 : decode (jm_cod M_Ref_readComes) 125 = .ok (.istore 8, 2) := dt_Ref_readComes_c3 6
theorem d_Ref_readComes_127 : decode (jm_cod M_Ref_readComes) 127 = .ok (.lload_n 2, 1) := dt_Ref_readComes_c3 7
theorem d_Ref_readComes_128 : decode (jm_cod M_Ref_readComes) 128 = .ok (.invokestatic 318, 3) := dt_Ref_readComes_c3 8
theorem d_Ref_readComes_131 : decode (jm_cod M_Ref_readComes) 131 = .ok (.istore 9, 2) := dt_Ref_readComes_c3 9
theorem d_Ref_readComes_133 : decode (jm_cod M_Ref_readComes) 133 = .ok (.lconst 0, 1) := dt_Ref_readComes_c3 10
theorem d_Ref_readComes_134 : decode (jm_cod M_Ref_readComes) 134 = .ok (.lstore 10, 2) := dt_Ref_readComes_c3 11
theorem d_Ref_readComes_136 : decode (jm_cod M_Ref_readComes) 136 = .ok (.iload 8, 2) := dt_Ref_readComes_c3 12
theorem d_Ref_readComes_138 : decode (jm_cod M_Ref_readComes) 138 = .ok (.istore 12, 2) := dt_Ref_readComes_c3 13
theorem d_Ref_readComes_140 : decode (jm_cod M_Ref_readComes) 140 = .ok (.iload 12, 2) := dt_Ref_readComes_c3 14
theorem d_Ref_readComes_142 : decode (jm_cod M_Ref_readComes) 142 = .ok (.iload 8, 2) := dt_Ref_readComes_c3 15
theorem d_Ref_readComes_144 : decode (jm_cod M_Ref_readComes) 144 = .ok (.iload 8, 2) := dt_Ref_readComes_c3 16
theorem d_Ref_readComes_146 : decode (jm_cod M_Ref_readComes) 146 = .ok (.iload 9, 2) := dt_Ref_readComes_c3 17
theorem d_Ref_readComes_148 : decode (jm_cod M_Ref_readComes) 148 = .ok (.irem, 1) := dt_Ref_readComes_c3 18
theorem d_Ref_readComes_149 : decode (jm_cod M_Ref_readComes) 149 = .ok (.isub, 1) := dt_Ref_readComes_c3 19
theorem d_Ref_readComes_150 : decode (jm_cod M_Ref_readComes) 150 = .ok (.iload 9, 2) := dt_Ref_readComes_c3 20
theorem d_Ref_readComes_152 : decode (jm_cod M_Ref_readComes) 152 = .ok (.iadd, 1) := dt_Ref_readComes_c3 21
theorem d_Ref_readComes_153 : decode (jm_cod M_Ref_readComes) 153 = .ok (.if_icmp .ge 36, 3) := dt_Ref_readComes_c3 22
theorem d_Ref_readComes_156 : decode (jm_cod M_Ref_readComes) 156 = .ok (.iload 7, 2) := dt_Ref_readComes_c3 23
def tab_Ref_readComes_c4 : List (Nat × Instr × Nat) := [(158, .ifCond .ne 31, 3), (161, .lload 10, 2), (163, .aload_n 0, 1), (164, .getfield 30, 3), (167, .iload 12, 2), (169, .iaload, 1), (170, .i2l, 1), (171, .bipush 8, 2), (173, .iload 12, 2), (175, .bipush 8, 2), (177, .irem, 1), (178, .imul, 1), (179, .lshl, 1), (180, .lor, 1), (181, .lstore 10, 2), (183, .iinc 12 1, 3), (186, .goto (-46), 3), (189, .aload_n 0, 1), (190, .getfield 202, 3), (193, .bipush 16, 2), (195, .iload 4, 2), (197, .imul, 1), (198, .iload 6, 2), (200, .iadd, 1)]
theorem dt_Ref_readComes_c4 (i : Nat) : decode (jm_cod M_Ref_readComes) (tab_Ref_readComes_c4.getD i (158, .ifCond .ne 31, 3)).1 = .ok ((tab_Ref_readComes_c4.getD i (158, .ifCond .ne 31, 3)).2.1, (tab_Ref_readComes_c4.getD i (158, .ifCond .ne 31, 3)).2.2) := j_tab (by decide +kernel) i
theorem d_Ref_readComes_158 : decode (jm_cod M_Ref_readComes) 158 = .ok (.ifCond .ne 31, 3) := dt_Ref_readComes_c4 0
theorem d_Ref_readComes_161 : decode (jm_cod M_Ref_readComes) 161 = .ok (.lload 10, 2) := dt_Ref_readComes_c4 1
theorem d_Ref_readComes_163 : decode (jm_cod M_Ref_readComes) 163 = .ok (.aload_n 0, 1) := dt_Ref_readComes_c4 2
theorem d_Ref_readComes_164 : decode (jm_cod M_Ref_readComes) 164 = .ok (.getfield 30, 3) := dt_Ref_readComes_c4 3
theorem d_Ref_readComes_167 : decode (jm_cod M_Ref_readComes) 167 = .ok (.iload 12, 2) := dt_Ref_readComes_c4 4
theorem d_Ref_readComes_169 : decode (jm_cod M_Ref_readComes) 169 = .ok (.iaload, 1) := dt_Ref_readComes_c4 5
theorem d_Ref_readComes_170 : decode (jm_cod M_Ref_readComes) 170 = .ok (.i2l, 1) := dt_Ref_readComes_c4 6
theorem d_Ref_readComes_171 : decode (jm_cod M_Ref_readComes) 171 = .ok (.bipush 8, 2) := dt_Ref_readComes_c4 7
theorem d_Ref_readComes_173 : decode (jm_cod M_Ref_readComes) 173 = .ok (.iload 12, 2) := dt_Ref_readComes_c4 8
theorem d_Ref_readComes_175 : decode (jm_cod M_Ref_readComes) 175 = .ok (.bipush 8, 2) := dt_Ref_readComes_c4 9
theorem d_Ref_readComes_177 : decode (jm_cod M_Ref_readComes) 177 = .ok (.irem, 1) := dt_Ref_readComes_c4 10
theorem d_Ref_readComes_178 : decode (jm_cod M_Ref_readComes) 178 = .ok (.imul, 1) := dt_Ref_readComes_c4 11
theorem d_Ref_readComes_179 : decode (jm_cod M_Ref_readComes) 179 = .ok (.lshl, 1) := dt_Ref_readComes_c4 12
theorem d_Ref_readComes_180 : decode (jm_cod M_Ref_readComes) 180 = .ok (.lor, 1) := dt_Ref_readComes_c4 13
theorem d_Ref_readComes_181 : decode (jm_cod M_Ref_readComes) 181 = .ok (.lstore 10, 2) := dt_Ref_readComes_c4 14
theorem d_Ref_readComes_183 : decode (jm_cod M_Ref_readComes) 183 = .ok (.iinc 12 1, 3) := dt_Ref_readComes_c4 15
theorem d_Ref_readComes_186 : decode (jm_cod M_Ref_readComes) 186 = .ok (.goto (-46), 3) := dt_Ref_readComes_c4 16
theorem d_Ref_readComes_189 : decode (jm_cod M_Ref_readComes) 189 = .ok (.aload_n 0, 1) := dt_Ref_readComes_c4 17
theorem d_Ref_readComes_190 : decode (jm_cod M_Ref_readComes) 190 = .ok (.getfield 202, 3) := dt_Ref_readComes_c4 18
theorem d_Ref_readComes_193 : decode (jm_cod M_Ref_readComes) 193 = .ok (.bipush 16, 2) := dt_Ref_readComes_c4 19
theorem d_Ref_readComes_195 : decode (jm_cod M_Ref_readComes) 195 = .ok (.iload 4, 2) := dt_Ref_readComes_c4 20
theorem d_Ref_readComes_197 : decode (jm_cod M_Ref_readComes) 197 = .ok (.imul, 1) := dt_Ref_readComes_c4 21
theorem d_Ref_readComes_198 : decode (jm_cod M_Ref_readComes) 198 = .ok (.iload 6, 2) := dt_Ref_readComes_c4 22
theorem d_Ref_readComes_200 : decode (jm_cod M_Ref_readComes) 200 = .ok (.iadd, 1) := dt_Ref_readComes_c4 23
def tab_Ref_readComes_c5 : List (Nat × Instr × Nat) := [(201, .lload 10, 2), (203, .lastore, 1), (204, .aload_n 0, 1), (205, .getfield 205, 3), (208, .bipush 16, 2), (210, .iload 4, 2), (212, .imul, 1), (213, .iload 6, 2), (215, .iadd, 1), (216, .iload 7, 2), (218, .ifCond .eq 7, 3), (221, .iconst 2, 1), (222, .goto 15, 3), (225, .lload_n 2, 1), (226, .invokestatic 329, 3), (229, .ifCond .eq 7, 3), (232, .iconst 1, 1), (233, .goto 4, 3), (236, .iconst 0, 1), (237, .iastore, 1), (238, .iload 5, 2), (240, .ifCond .eq 12, 3), (243, .iload 7, 2), (245, .ifCond .ne 7, 3)]
theorem dt_Ref_readComes_c5 (i : Nat) : decode (jm_cod M_Ref_readComes) (tab_Ref_readComes_c5.getD i (201, .lload 10, 2)).1 = .ok ((tab_Ref_readComes_c5.getD i (201, .lload 10, 2)).2.1, (tab_Ref_readComes_c5.getD i (201, .lload 10, 2)).2.2) := j_tab (by decide +kernel) i
theorem d_Ref_readComes_201 : decode (jm_cod M_Ref_readComes) 201 = .ok (.lload 10, 2) := dt_Ref_readComes_c5 0
theorem d_Ref_readComes_203 : decode (jm_cod M_Ref_readComes) 203 = .ok (.lastore, 1) := dt_Ref_readComes_c5 1
theorem d_Ref_readComes_204 : decode (jm_cod M_Ref_readComes) 204 = .ok (.aload_n 0, 1) := dt_Ref_readComes_c5 2
theorem d_Ref_readComes_205 : decode (jm_cod M_Ref_readComes) 205 = .ok (.getfield 205, 3) := dt_Ref_readComes_c5 3
theorem d_Ref_readComes_208 : decode (jm_cod M_Ref_readComes) 208 = .ok (.bipush 16, 2) := dt_Ref_readComes_c5 4
theorem d_Ref_readComes_210 : decode (jm_cod M_Ref_readComes) 210 = .ok (.iload 4, 2) := dt_Ref_readComes_c5 5
theorem d_Ref_readComes_212 : decode (jm_cod M_Ref_readComes) 212 = .ok (.imul, 1) := dt_Ref_readComes_c5 6
theorem d_Ref_readComes_213 : decode (jm_cod M_Ref_readComes) 213 = .ok (.iload 6, 2) := dt_Ref_readComes_c5 7
theorem d_Ref_readComes_215 : decode (jm_cod M_Ref_readComes) 215 = .ok (.iadd, 1) := dt_Ref_readComes_c5 8
theorem d_Ref_readComes_216 : decode (jm_cod M_Ref_readComes) 216 = .ok (.iload 7, 2) := dt_Ref_readComes_c5 9
theorem d_Ref_readComes_218 : decode (jm_cod M_Ref_readComes) 218 = .ok (.ifCond .eq 7, 3) := dt_Ref_readComes_c5 10
theorem d_Ref_readComes_221 : decode (jm_cod M_Ref_readComes) 221 = .ok (.iconst 2, 1) := dt_Ref_readComes_c5 11
theorem d_Ref_readComes_222 : decode (jm_cod M_Ref_readComes) 222 = .ok (.goto 15, 3) := dt_Ref_readComes_c5 12
theorem d_Ref_readComes_225 : decode (jm_cod M_Ref_readComes) 225 = .ok (.lload_n 2, 1) := dt_Ref_readComes_c5 13
theorem d_Ref_readComes_226 : decode (jm_cod M_Ref_readComes) 226 = .ok (.invokestatic 329, 3) := dt_Ref_readComes_c5 14
theorem d_Ref_readComes_229 : decode (jm_cod M_Ref_readComes) 229 = .ok (.ifCond .eq 7, 3) := dt_Ref_readComes_c5 15
theorem d_Ref_readComes_232 : decode (jm_cod M_Ref_readComes) 232 = .ok (.iconst 1, 1) := dt_Ref_readComes_c5 16
theorem d_Ref_readComes_233 : decode (jm_cod M_Ref_readComes) 233 = .ok (.goto 4, 3) := dt_Ref_readComes_c5 17
theorem d_Ref_readComes_236 : decode (jm_cod M_Ref_readComes) 236 = .ok (.iconst 0, 1) := dt_Ref_readComes_c5 18
theorem d_Ref_readComes_237 : decode (jm_cod M_Ref_readComes) 237 = .ok (.iastore, 1) := dt_Ref_readComes_c5 19
theorem d_Ref_readComes_238 : decode (jm_cod M_Ref_readComes) 238 = .ok (.iload 5, 2) := dt_Ref_readComes_c5 20
theorem d_Ref_readComes_240 : decode (jm_cod M_Ref_readComes) 240 = .ok (.ifCond .eq 12, 3) := dt_Ref_readComes_c5 21
theorem d_Ref_readComes_243 : decode (jm_cod M_Ref_readComes) 243 = .ok (.iload 7, 2) := dt_Ref_readComes_c5 22
theorem d_Ref_readComes_245 : decode (jm_cod M_Ref_readComes) 245 = .ok (.ifCond .ne 7, 3) := dt_Ref_readComes_c5 23
def tab_Ref_readComes_c6 : List (Nat × Instr × Nat) := [(248, .iconst 1, 1), (249, .goto 4, 3), (252, .iconst 0, 1), (253, .istore 5, 2), (255, .iinc 6 1, 3), (258, .goto (-157), 3), (261, .lload_n 2, 1), (262, .invokestatic 329, 3), (265, .ifCond .eq 49, 3), (268, .iload 5, 2), (270, .ifCond .eq 44, 3), (273, .aload_n 0, 1), (274, .getfield 220, 3), (277, .bipush 64, 2), (279, .iload_n 1, 1), (280, .imul, 1), (281, .lload_n 2, 1), (282, .invokestatic 396, 3), (285, .iadd, 1), (286, .lload_n 2, 1), (287, .invokestatic 314, 3), (290, .iastore, 1), (291, .aload_n 0, 1), (292, .getfield 223, 3)]
theorem dt_Ref_readComes_c6 (i : Nat) : decode (jm_cod M_Ref_readComes) (tab_Ref_readComes_c6.getD i (248, .iconst 1, 1)).1 = .ok ((tab_Ref_readComes_c6.getD i (248, .iconst 1, 1)).2.1, (tab_Ref_readComes_c6.getD i (248, .iconst 1, 1)).2.2) := j_tab (by decide +kernel) i
theorem d_Ref_readComes_248 : decode (jm_cod M_Ref_readComes) 248 = .ok (.iconst 1, 1) := dt_Ref_readComes_c6 0
theorem d_Ref_readComes_249 : decode (jm_cod M_Ref_readComes) 249 = .ok (.goto 4, 3) := dt_Ref_readComes_c6 1
theorem d_Ref_readComes_252 : decode (jm_cod M_Ref_readComes) 252 = .ok (.iconst 0, 1) := dt_Ref_readComes_c6 2
theorem d_Ref_readComes_253 : decode (jm_cod M_Ref_readComes) 253 = .ok (.istore 5, 2) := dt_Ref_readComes_c6 3
theorem d_Ref_readComes_255 : decode (jm_cod M_Ref_readComes) 255 = .ok (.iinc 6 1, 3) := dt_Ref_readComes_c6 4
theorem d_Ref_readComes_258 : decode (jm_cod M_Ref_readComes) 258 = .ok (.goto (-157), 3) := dt_Ref_readComes_c6 5
theorem d_Ref_readComes_261 : decode (jm_cod M_Ref_readComes) 261 = .ok (.lload_n 2, 1) := dt_Ref_readComes_c6 6
theorem d_Ref_readComes_262 : decode (jm_cod M_Ref_readComes) 262 = .ok (.invokestatic 329, 3) := dt_Ref_readComes_c6 7
theorem d_Ref_readComes_265 : decode (jm_cod M_Ref_readComes) 265 = .ok (.ifCond .eq 49, 3) := dt_Ref_readComes_c6 8
theorem d_Ref_readComes_268 : decode (jm_cod M_Ref_readComes) 268 = .ok (.iload 5, 2) := dt_Ref_readComes_c6 9
theorem d_Ref_readComes_270 : decode (jm_cod M_Ref_readComes) 270 = .ok (.ifCond .eq 44, 3) := dt_Ref_readComes_c6 10
theorem d_Ref_readComes_273 : decode (jm_cod M_Ref_readComes) 273 = .ok (.aload_n 0, 1) := dt_Ref_readComes_c6 11
theorem d_Ref_readComes_274 : decode (jm_cod M_Ref_readComes) 274 = .ok (.getfield 220, 3) := dt_Ref_readComes_c6 12
theorem d_Ref_readComes_277 : decode (jm_cod M_Ref_readComes) 277 = .ok (.bipush 64, 2) := dt_Ref_readComes_c6 13
theorem d_Ref_readComes_279 : decode (jm_cod M_Ref_readComes) 279 = .ok (.iload_n 1, 1) := dt_Ref_readComes_c6 14
theorem d_Ref_readComes_280 : decode (jm_cod M_Ref_readComes) 280 = .ok (.imul, 1) := dt_Ref_readComes_c6 15
theorem d_Ref_readComes_281 : decode (jm_cod M_Ref_readComes) 281 = .ok (.lload_n 2, 1) := dt_Ref_readComes_c6 16
theorem d_Ref_readComes_282 : decode (jm_cod M_Ref_readComes) 282 = .ok (.invokestatic 396, 3) := dt_Ref_readComes_c6 17
theorem d_Ref_readComes_285 : decode (jm_cod M_Ref_readComes) 285 = .ok (.iadd, 1) := dt_Ref_readComes_c6 18
theorem d_Ref_readComes_286 : decode (jm_cod M_Ref_readComes) 286 = .ok (.lload_n 2, 1) := dt_Ref_readComes_c6 19
theorem d_Ref_readComes_287 : decode (jm_cod M_Ref_readComes) 287 = .ok (.invokestatic 314, 3) := dt_Ref_readComes_c6 20
theorem d_Ref_readComes_290 : decode (jm_cod M_Ref_readComes) 290 = .ok (.iastore, 1) := dt_Ref_readComes_c6 21
theorem d_Ref_readComes_291 : decode (jm_cod M_Ref_readComes) 291 = .ok (.aload_n 0, 1) := dt_Ref_readComes_c6 22
theorem d_Ref_readComes_292 : decode (jm_cod M_Ref_readComes) 292 = .ok (.getfield 223, 3) := dt_Ref_readComes_c6 23
def tab_Ref_readComes_c7 : List (Nat × Instr × Nat) := [(295, .bipush 64, 2), (297, .iload_n 1, 1), (298, .imul, 1), (299, .lload_n 2, 1), (300, .invokestatic 396, 3), (303, .iadd, 1), (304, .lload_n 2, 1), (305, .invokestatic 321, 3), (308, .lload_n 2, 1), (309, .invokestatic 318, 3), (312, .imul, 1), (313, .iastore, 1), (314, .return_, 1)]
theorem dt_Ref_readComes_c7 (i : Nat) : decode (jm_cod M_Ref_readComes) (tab_Ref_readComes_c7.getD i (295, .bipush 64, 2)).1 = .ok ((tab_Ref_readComes_c7.getD i (295, .bipush 64, 2)).2.1, (tab_Ref_readComes_c7.getD i (295, .bipush 64, 2)).2.2) := j_tab (by decide +kernel) i
theorem d_Ref_readComes_295 : decode (jm_cod M_Ref_readComes) 295 = .ok (.bipush 64, 2) := dt_Ref_readComes_c7 0
theorem d_Ref_readComes_297 : decode (jm_cod M_Ref_readComes) 297 = .ok (.iload_n 1, 1) := dt_Ref_readComes_c7 1
theorem d_Ref_readComes_298 : decode (jm_cod M_Ref_readComes) 298 = .ok (.imul, 1) := dt_Ref_readComes_c7 2
theorem d_Ref_readComes_299 : decode (jm_cod M_Ref_readComes) 299 = .ok (.lload_n 2, 1) := dt_Ref_readComes_c7 3
theorem d_Ref_readComes_300 : decode (jm_cod M_Ref_readComes) 300 = .ok (.invokestatic 396, 3) := dt_Ref_readComes_c7 4
theorem d_Ref_readComes_303 : decode (jm_cod M_Ref_readComes) 303 = .ok (.iadd, 1) := dt_Ref_readComes_c7 5
theorem d_Ref_readComes_304 : decode (jm_cod M_Ref_readComes) 304 = .ok (.lload_n 2, 1) := dt_Ref_readComes_c7 6
theorem d_Ref_readComes_305 : decode (jm_cod M_Ref_readComes) 305 = .ok (.invokestatic 321, 3) := dt_Ref_readComes_c7 7
theorem d_Ref_readComes_308 : decode (jm_cod M_Ref_readComes) 308 = .ok (.lload_n 2, 1) := dt_Ref_readComes_c7 8
theorem d_Ref_readComes_309 : decode (jm_cod M_Ref_readComes) 309 = .ok (.invokestatic 318, 3) := dt_Ref_readComes_c7 9
theorem d_Ref_readComes_312 : decode (jm_cod M_Ref_readComes) 312 = .ok (.imul, 1) := dt_Ref_readComes_c7 10
theorem d_Ref_readComes_313 : decode (jm_cod M_Ref_readComes) 313 = .ok (.iastore, 1) := dt_Ref_readComes_c7 11
theorem d_Ref_readComes_314 : decode (jm_cod M_Ref_readComes) 314 = .ok (.return_, 1) := dt_Ref_readComes_c7 12
def tab_Ref_isSpoilt_c0 : List (Nat × Instr × Nat) := [(0, .lload_n 1, 1), (1, .iload_n 3, 1), (2, .invokestatic 366, 3), (5, .istore 4, 2), (7, .lload_n 1, 1), (8, .invokestatic 318, 3), (11, .istore 5, 2), (13, .iconst 0, 1), (14, .istore 6, 2), (16, .iload 4, 2), (18, .istore 7, 2), (20, .iload 7, 2), (22, .iload 4, 2), (24, .iload 4, 2), (26, .iload 5, 2), (28, .irem, 1), (29, .isub, 1), (30, .iload 5, 2), (32, .iadd, 1), (33, .if_icmp .ge 31, 3), (36, .iload 6, 2), (38, .ifCond .ne 13, 3), (41, .aload_n 0, 1), (42, .getfield 33, 3)]
theorem dt_Ref_isSpoilt_c0 (i : Nat) : decode (jm_cod M_Ref_isSpoilt) (tab_Ref_isSpoilt_c0.getD i (0, .lload_n 1, 1)).1 = .ok ((tab_Ref_isSpoilt_c0.getD i (0, .lload_n 1, 1)).2.1, (tab_Ref_isSpoilt_c0.getD i (0, .lload_n 1, 1)).2.2) := j_tab (by decide +kernel) i
theorem d_Ref_isSpoilt_0 : decode (jm_cod M_Ref_isSpoilt) 0 = .ok (.lload_n 1, 1) := dt_Ref_isSpoilt_c0 0
theorem d_Ref_isSpoilt_1 : decode (jm_cod M_Ref_isSpoilt) 1 = .ok (.iload_n 3, 1) := dt_Ref_isSpoilt_c0 1
theorem d_Ref_isSpoilt_2 : decode (jm_cod M_Ref_isSpoilt) 2 = .ok (.invokestatic 366, 3) := dt_Ref_isSpoilt_c0 2
theorem d_Ref_isSpoilt_5 : decode (jm_cod M_Ref_isSpoilt) 5 = .ok (.istore 4, 2) := dt_Ref_isSpoilt_c0 3
theorem d_Ref_isSpoilt_7 : decode (jm_cod M_Ref_isSpoilt) 7 = .ok (.lload_n 1, 1) := dt_Ref_isSpoilt_c0 4
theorem d_Ref_isSpoilt_8 : decode (jm_cod M_Ref_isSpoilt) 8 = .ok (.invokestatic 318, 3) := dt_Ref_isSpoilt_c0 5
theorem d_Ref_isSpoilt_11 : decode (jm_cod M_Ref_isSpoilt) 11 = .ok (.istore 5, 2) := dt_Ref_isSpoilt_c0 6
theorem d_Ref_isSpoilt_13 : decode (jm_cod M_Ref_isSpoilt) 13 = .ok (.iconst 0, 1) := dt_Ref_isSpoilt_c0 7
theorem d_Ref_isSpoilt_14 : decode (jm_cod M_Ref_isSpoilt) 14 = .ok (.istore 6, 2) := dt_Ref_isSpoilt_c0 8
theorem d_Ref_isSpoilt_16 : decode (jm_cod M_Ref_isSpoilt) 16 = .ok (.iload 4, 2) := dt_Ref_isSpoilt_c0 9
theorem d_Ref_isSpoilt_18 : decode (jm_cod M_Ref_isSpoilt) 18 = .ok (.istore 7, 2) := dt_Ref_isSpoilt_c0 10
theorem d_Ref_isSpoilt_20 : decode (jm_cod M_Ref_isSpoilt) 20 = .ok (.iload 7, 2) := dt_Ref_isSpoilt_c0 11
theorem d_Ref_isSpoilt_22 : decode (jm_cod M_Ref_isSpoilt) 22 = .ok (.iload 4, 2) := dt_Ref_isSpoilt_c0 12
theorem d_Ref_isSpoilt_24 : decode (jm_cod M_Ref_isSpoilt) 24 = .ok (.iload 4, 2) := dt_Ref_isSpoilt_c0 13
theorem d_Ref_isSpoilt_26 : decode (jm_cod M_Ref_isSpoilt) 26 = .ok (.iload 5, 2) := dt_Ref_isSpoilt_c0 14
theorem d_Ref_isSpoilt_28 : decode (jm_cod M_Ref_isSpoilt) 28 = .ok (.irem, 1) := dt_Ref_isSpoilt_c0 15
theorem d_Ref_isSpoilt_29 : decode (jm_cod M_Ref_isSpoilt) 29 = .ok (.isub, 1) := dt_Ref_isSpoilt_c0 16
theorem d_Ref_isSpoilt_30 : decode (jm_cod M_Ref_isSpoilt) 30 = .ok (.iload 5, 2) := dt_Ref_isSpoilt_c0 17
theorem d_Ref_isSpoilt_32 : decode (jm_cod M_Ref_isSpoilt) 32 = .ok (.iadd, 1) := dt_Ref_isSpoilt_c0 18
theorem d_Ref_isSpoilt_33 : decode (jm_cod M_Ref_isSpoilt) 33 = .ok (.if_icmp .ge 31, 3) := dt_Ref_isSpoilt_c0 19
theorem d_Ref_isSpoilt_36 : decode (jm_cod M_Ref_isSpoilt) 36 = .ok (.iload 6, 2) := dt_Ref_isSpoilt_c0 20
theorem d_Ref_isSpoilt_38 : decode (jm_cod M_Ref_isSpoilt) 38 = .ok (.ifCond .ne 13, 3) := dt_Ref_isSpoilt_c0 21
theorem d_Ref_isSpoilt_41 : decode (jm_cod M_Ref_isSpoilt) 41 = .ok (.aload_n 0, 1) := dt_Ref_isSpoilt_c0 22
theorem d_Ref_isSpoilt_42 : decode (jm_cod M_Ref_isSpoilt) 42 = .ok (.getfield 33, 3) := dt_Ref_isSpoilt_c0 23
def tab_Ref_isSpoilt_c1 : List (Nat × Instr × Nat) := [(45, .iload 7, 2), (47, .baload, 1), (48, .ifCond .eq 7, 3), (51, .iconst 1, 1), (52, .goto 4, 3), (55, .iconst 0, 1), (56, .istore 6, 2), (58, .iinc 7 1, 3), (61, .goto (-41), 3), (64, .iload 6, 2), (66, .ireturn, 1)]
theorem dt_Ref_isSpoilt_c1 (i : Nat) : decode (jm_cod M_Ref_isSpoilt) (tab_Ref_isSpoilt_c1.getD i (45, .iload 7, 2)).1 = .ok ((tab_Ref_isSpoilt_c1.getD i (45, .iload 7, 2)).2.1, (tab_Ref_isSpoilt_c1.getD i (45, .iload 7, 2)).2.2) := j_tab (by decide +kernel) i
theorem d_Ref_isSpoilt_45 : decode (jm_cod M_Ref_isSpoilt) 45 = .ok (.iload 7, 2) := dt_Ref_isSpoilt_c1 0
theorem d_Ref_isSpoilt_47 : decode (jm_cod M_Ref_isSpoilt) 47 = .ok (.baload, 1) := dt_Ref_isSpoilt_c1 1
theorem d_Ref_isSpoilt_48 : decode (jm_cod M_Ref_isSpoilt) 48 = .ok (.ifCond .eq 7, 3) := dt_Ref_isSpoilt_c1 2
theorem d_Ref_isSpoilt_51 : decode (jm_cod M_Ref_isSpoilt) 51 = .ok (.iconst 1, 1) := dt_Ref_isSpoilt_c1 3
theorem d_Ref_isSpoilt_52 : decode (jm_cod M_Ref_isSpoilt) 52 = .ok (.goto 4, 3) := dt_Ref_isSpoilt_c1 4
theorem d_Ref_isSpoilt_55 : decode (jm_cod M_Ref_isSpoilt) 55 = .ok (.iconst 0, 1) := dt_Ref_isSpoilt_c1 5
theorem d_Ref_isSpoilt_56 : decode (jm_cod M_Ref_isSpoilt) 56 = .ok (.istore 6, 2) := dt_Ref_isSpoilt_c1 6
theorem d_Ref_isSpoilt_58 : decode (jm_cod M_Ref_isSpoilt) 58 = .ok (.iinc 7 1, 3) := dt_Ref_isSpoilt_c1 7
theorem d_Ref_isSpoilt_61 : decode (jm_cod M_Ref_isSpoilt) 61 = .ok (.goto (-41), 3) := dt_Ref_isSpoilt_c1 8
theorem d_Ref_isSpoilt_64 : decode (jm_cod M_Ref_isSpoilt) 64 = .ok (.iload 6, 2) := dt_Ref_isSpoilt_c1 9
theorem d_Ref_isSpoilt_66 : decode (jm_cod M_Ref_isSpoilt) 66 = .ok (.ireturn, 1) := dt_Ref_isSpoilt_c1 10
def tab_Ref_move_c0 : List (Nat × Instr × Nat) := [(0, .iconst 0, 1), (1, .istore_n 1, 1), (2, .iload_n 1, 1), (3, .aload_n 0, 1), (4, .getfield 294, 3), (7, .if_icmp .gt 15, 3), (10, .aload_n 0, 1), (11, .iload_n 1, 1), (12, .iconst 0, 1), (13, .invokevirtual 563, 3), (16, .iinc 1 1, 3), (19, .goto (-17), 3), (22, .iconst 0, 1), (23, .istore_n 1, 1), (24, .iload_n 1, 1), (25, .aload_n 0, 1), (26, .getfield 294, 3), (29, .if_icmp .gt 15, 3), (32, .aload_n 0, 1), (33, .iload_n 1, 1), (34, .iconst 3, 1), (35, .invokevirtual 563, 3), (38, .iinc 1 1, 3), (41, .goto (-17), 3)]
theorem dt_Ref_move_c0 (i : Nat) : decode (jm_cod M_Ref_move) (tab_Ref_move_c0.getD i (0, .iconst 0, 1)).1 = .ok ((tab_Ref_move_c0.getD i (0, .iconst 0, 1)).2.1, (tab_Ref_move_c0.getD i (0, .iconst 0, 1)).2.2) := j_tab (by decide +kernel) i
theorem d_Ref_move_0 : decode (jm_cod M_Ref_move) 0 = .ok (.iconst 0, 1) := dt_Ref_move_c0 0
theorem d_Ref_move_1 : decode (jm_cod M_Ref_move) 1 = .ok (.istore_n 1, 1) := dt_Ref_move_c0 1
theorem d_Ref_move_2 : decode (jm_cod M_Ref_move) 2 = .ok (.iload_n 1, 1) := dt_Ref_move_c0 2
theorem d_Ref_move_3 : decode (jm_cod M_Ref_move) 3 = .ok (.aload_n 0, 1) := dt_Ref_move_c0 3
theorem d_Ref_move_4 : decode (jm_cod M_Ref_move) 4 = .ok (.getfield 294, 3) := dt_Ref_move_c0 4
theorem d_Ref_move_7 : decode (jm_cod M_Ref_move) 7 = .ok (.if_icmp .gt 15, 3) := dt_Ref_move_c0 5
theorem d_Ref_move_10 : decode (jm_cod M_Ref_move) 10 = .ok (.aload_n 0, 1) := dt_Ref_move_c0 6
theorem d_Ref_move_11 : decode (jm_cod M_Ref_move) 11 = .ok (.iload_n 1, 1) := dt_Ref_move_c0 7
theorem d_Ref_move_12 : decode (jm_cod M_Ref_move) 12 = .ok (.iconst 0, 1) := dt_Ref_move_c0 8
theorem d_Ref_move_13 : decode (jm_cod M_Ref_move) 13 = .ok (.invokevirtual 563, 3) := dt_Ref_move_c0 9
theorem d_Ref_move_16 : decode (jm_cod M_Ref_move) 16 = .ok (.iinc 1 1, 3) := dt_Ref_move_c0 10
theorem d_Ref_move_19 : decode (jm_cod M_Ref_move) 19 = .ok (.goto (-17), 3) := dt_Ref_move_c0 11
theorem d_Ref_move_22 : decode (jm_cod M_Ref_move) 22 = .ok (.iconst 0, 1) := dt_Ref_move_c0 12
theorem d_Ref_move_23 : decode (jm_cod M_Ref_move) 23 = .ok (.istore_n 1, 1) := dt_Ref_move_c0 13
theorem d_Ref_move_24 : decode (jm_cod M_Ref_move) 24 = .ok (.iload_n 1, 1) := dt_Ref_move_c0 14
theorem d_Ref_move_25 : decode (jm_cod M_Ref_move) 25 = .ok (.aload_n 0, 1) := dt_Ref_move_c0 15
theorem d_Ref_move_26 : decode (jm_cod M_Ref_move) 26 = .ok (.getfield 294, 3) := dt_Ref_move_c0 16
theorem d_Ref_move_29 : decode (jm_cod M_Ref_move) 29 = .ok (.if_icmp .gt 15, 3) := dt_Ref_move_c0 17
theorem d_Ref_move_32 : decode (jm_cod M_Ref_move) 32 = .ok (.aload_n 0, 1) := dt_Ref_move_c0 18
theorem d_Ref_move_33 : decode (jm_cod M_Ref_move) 33 = .ok (.iload_n 1, 1) := dt_Ref_move_c0 19
theorem d_Ref_move_34 : decode (jm_cod M_Ref_move) 34 = .ok (.iconst 3, 1) := dt_Ref_move_c0 20
theorem d_Ref_move_35 : decode (jm_cod M_Ref_move) 35 = .ok (.invokevirtual 563, 3) := dt_Ref_move_c0 21
theorem d_Ref_move_38 : decode (jm_cod M_Ref_move) 38 = .ok (.iinc 1 1, 3) := dt_Ref_move_c0 22
theorem d_Ref_move_41 : decode (jm_cod M_Ref_move) 41 = .ok (.goto (-17), 3) := dt_Ref_move_c0 23
def tab_Ref_move_c1 : List (Nat × Instr × Nat) := [(44, .iconst 0, 1), (45, .istore_n 1, 1), (46, .iload_n 1, 1), (47, .aload_n 0, 1), (48, .getfield 290, 3), (51, .if_icmp .ge 14, 3), (54, .aload_n 0, 1), (55, .iload_n 1, 1), (56, .invokevirtual 566, 3), (59, .iinc 1 1, 3), (62, .goto (-16), 3), (65, .aload_n 0, 1), (66, .invokevirtual 569, 3), (69, .iconst 0, 1), (70, .istore_n 1, 1), (71, .iload_n 1, 1), (72, .aload_n 0, 1), (73, .getfield 290, 3), (76, .if_icmp .ge 14, 3), (79, .aload_n 0, 1), (80, .iload_n 1, 1), (81, .invokevirtual 572, 3), (84, .iinc 1 1, 3), (87, .goto (-16), 3)]
theorem dt_Ref_move_c1 (i : Nat) : decode (jm_cod M_Ref_move) (tab_Ref_move_c1.getD i (44, .iconst 0, 1)).1 = .ok ((tab_Ref_move_c1.getD i (44, .iconst 0, 1)).2.1, (tab_Ref_move_c1.getD i (44, .iconst 0, 1)).2.2) := j_tab (by decide +kernel) i
theorem d_Ref_move_44 : decode (jm_cod M_Ref_move) 44 = .ok (.iconst 0, 1) := dt_Ref_move_c1 0
theorem d_Ref_move_45 : decode (jm_cod M_Ref_move) 45 = .ok (.istore_n 1, 1) := dt_Ref_move_c1 1
theorem d_Ref_move_46 : decode (jm_cod M_Ref_move) 46 = .ok (.iload_n 1, 1) := dt_Ref_move_c1 2
theorem d_Ref_move_47 : decode (jm_cod M_Ref_move) 47 = .ok (.aload_n 0, 1) := dt_Ref_move_c1 3
theorem d_Ref_move_48 : decode (jm_cod M_Ref_move) 48 = .ok (.getfield 290, 3) := dt_Ref_move_c1 4
theorem d_Ref_move_51 : decode (jm_cod M_Ref_move) 51 = .ok (.if_icmp .ge 14, 3) := dt_Ref_move_c1 5
theorem d_Ref_move_54 : decode (jm_cod M_Ref_move) 54 = .ok (.aload_n 0, 1) := dt_Ref_move_c1 6
theorem d_Ref_move_55 : decode (jm_cod M_Ref_move) 55 = .ok (.iload_n 1, 1) := dt_Ref_move_c1 7
theorem d_Ref_move_56 : decode (jm_cod M_Ref_move) 56 = .ok (.invokevirtual 566, 3) := dt_Ref_move_c1 8
theorem d_Ref_move_59 : decode (jm_cod M_Ref_move) 59 = .ok (.iinc 1 1, 3) := dt_Ref_move_c1 9
theorem d_Ref_move_62 : decode (jm_cod M_Ref_move) 62 = .ok (.goto (-16), 3) := dt_Ref_move_c1 10
theorem d_Ref_move_65 : decode (jm_cod M_Ref_move) 65 = .ok (.aload_n 0, 1) := dt_Ref_move_c1 11
theorem d_Ref_move_66 : decode (jm_cod M_Ref_move) 66 = .ok (.invokevirtual 569, 3) := dt_Ref_move_c1 12
theorem d_Ref_move_69 : decode (jm_cod M_Ref_move) 69 = .ok (.iconst 0, 1) := dt_Ref_move_c1 13
theorem d_Ref_move_70 : decode (jm_cod M_Ref_move) 70 = .ok (.istore_n 1, 1) := dt_Ref_move_c1 14
theorem d_Ref_move_71 : decode (jm_cod M_Ref_move) 71 = .ok (.iload_n 1, 1) := dt_Ref_move_c1 15
theorem d_Ref_move_72 : decode (jm_cod M_Ref_move) 72 = .ok (.aload_n 0, 1) := dt_Ref_move_c1 16
theorem d_Ref_move_73 : decode (jm_cod M_Ref_move) 73 = .ok (.getfield 290, 3) := dt_Ref_move_c1 17
theorem d_Ref_move_76 : decode (jm_cod M_Ref_move) 76 = .ok (.if_icmp .ge 14, 3) := dt_Ref_move_c1 18
theorem d_Ref_move_79 : decode (jm_cod M_Ref_move) 79 = .ok (.aload_n 0, 1) := dt_Ref_move_c1 19
theorem d_Ref_move_80 : decode (jm_cod M_Ref_move) 80 = .ok (.iload_n 1, 1) := dt_Ref_move_c1 20
theorem d_Ref_move_81 : decode (jm_cod M_Ref_move) 81 = .ok (.invokevirtual 572, 3) := dt_Ref_move_c1 21
theorem d_Ref_move_84 : decode (jm_cod M_Ref_move) 84 = .ok (.iinc 1 1, 3) := dt_Ref_move_c1 22
theorem d_Ref_move_87 : decode (jm_cod M_Ref_move) 87 = .ok (.goto (-16), 3) := dt_Ref_move_c1 23
def tab_Ref_move_c2 : List (Nat × Instr × Nat) := [(90, .iconst 0, 1), (91, .istore_n 1, 1), (92, .iload_n 1, 1), (93, .aload_n 0, 1), (94, .getfield 290, 3), (97, .if_icmp .ge 14, 3), (100, .aload_n 0, 1), (101, .iload_n 1, 1), (102, .invokevirtual 575, 3), (105, .iinc 1 1, 3), (108, .goto (-16), 3), (111, .return_, 1)]
theorem dt_Ref_move_c2 (i : Nat) : decode (jm_cod M_Ref_move) (tab_Ref_move_c2.getD i (90, .iconst 0, 1)).1 = .ok ((tab_Ref_move_c2.getD i (90, .iconst 0, 1)).2.1, (tab_Ref_move_c2.getD i (90, .iconst 0, 1)).2.2) := j_tab (by decide +kernel) i
theorem d_Ref_move_90 : decode (jm_cod M_Ref_move) 90 = .ok (.iconst 0, 1) := dt_Ref_move_c2 0
theorem d_Ref_move_91 : decode (jm_cod M_Ref_move) 91 = .ok (.istore_n 1, 1) := dt_Ref_move_c2 1
theorem d_Ref_move_92 : decode (jm_cod M_Ref_move) 92 = .ok (.iload_n 1, 1) := dt_Ref_move_c2 2
theorem d_Ref_move_93 : decode (jm_cod M_Ref_move) 93 = .ok (.aload_n 0, 1) := dt_Ref_move_c2 3
theorem d_Ref_move_94 : decode (jm_cod M_Ref_move) 94 = .ok (.getfield 290, 3) := dt_Ref_move_c2 4
theorem d_Ref_move_97 : decode (jm_cod M_Ref_move) 97 = .ok (.if_icmp .ge 14, 3) := dt_Ref_move_c2 5
theorem d_Ref_move_100 : decode (jm_cod M_Ref_move) 100 = .ok (.aload_n 0, 1) := dt_Ref_move_c2 6
theorem d_Ref_move_101 : decode (jm_cod M_Ref_move) 101 = .ok (.iload_n 1, 1) := dt_Ref_move_c2 7
theorem d_Ref_move_102 : decode (jm_cod M_Ref_move) 102 = .ok (.invokevirtual 575, 3) := dt_Ref_move_c2 8
theorem d_Ref_move_105 : decode (jm_cod M_Ref_move) 105 = .ok (.iinc 1 1, 3) := dt_Ref_move_c2 9
theorem d_Ref_move_108 : decode (jm_cod M_Ref_move) 108 = .ok (.goto (-16), 3) := dt_Ref_move_c2 10
theorem d_Ref_move_111 : decode (jm_cod M_Ref_move) 111 = .ok (.return_, 1) := dt_Ref_move_c2 11
def tab_Ref_moveAddress_c0 : List (Nat × Instr × Nat) := [(0, .aload_n 0, 1), (1, .iload_n 1, 1), (2, .iload_n 2, 1), (3, .invokevirtual 548, 3), (6, .istore_n 3, 1), (7, .iload_n 3, 1), (8, .iconst (-1), 1), (9, .if_icmp .ne 4, 3), (12, .return_, 1), (13, .aload_n 0, 1), (14, .iconst 0, 1), (15, .iload_n 3, 1), (16, .iload_n 2, 1), (17, .invokevirtual 388, 3), (20, .istore 4, 2), (22, .aload_n 0, 1), (23, .getfield 106, 3), (26, .iconst 4, 1), (27, .iload 4, 2), (29, .imul, 1), (30, .laload, 1), (31, .lstore 5, 2), (33, .aload_n 0, 1), (34, .iload 4, 2)]
theorem dt_Ref_moveAddress_c0 (i : Nat) : decode (jm_cod M_Ref_moveAddress) (tab_Ref_moveAddress_c0.getD i (0, .aload_n 0, 1)).1 = .ok ((tab_Ref_moveAddress_c0.getD i (0, .aload_n 0, 1)).2.1, (tab_Ref_moveAddress_c0.getD i (0, .aload_n 0, 1)).2.2) := j_tab (by decide +kernel) i
theorem d_Ref_moveAddress_0 : decode (jm_cod M_Ref_moveAddress) 0 = .ok (.aload_n 0, 1) := dt_Ref_moveAddress_c0 0
theorem d_Ref_moveAddress_1 : decode (jm_cod M_Ref_moveAddress) 1 = .ok (.iload_n 1, 1) := dt_Ref_moveAddress_c0 1
theorem d_Ref_moveAddress_2 : decode (jm_cod M_Ref_moveAddress) 2 = .ok (.iload_n 2, 1) := dt_Ref_moveAddress_c0 2
theorem d_Ref_moveAddress_3 : decode (jm_cod M_Ref_moveAddress) 3 = .ok (.invokevirtual 548, 3) := dt_Ref_moveAddress_c0 3
theorem d_Ref_moveAddress_6 : decode (jm_cod M_Ref_moveAddress) 6 = .ok (.istore_n 3, 1) := dt_Ref_moveAddress_c0 4
theorem d_Ref_moveAddress_7 : decode (jm_cod M_Ref_moveAddress) 7 = .ok (.iload_n 3, 1) := dt_Ref_moveAddress_c0 5
theorem d_Ref_moveAddress_8 : decode (jm_cod M_Ref_moveAddress) 8 = .ok (.iconst (-1), 1) := dt_Ref_moveAddress_c0 6
theorem d_Ref_moveAddress_9 : decode (jm_cod M_Ref_moveAddress) 9 = .ok (.if_icmp .ne 4, 3) := dt_Ref_moveAddress_c0 7
theorem d_Ref_moveAddress_12 : decode (jm_cod M_Ref_moveAddress) 12 = .ok (.return_, 1) := dt_Ref_moveAddress_c0 8
theorem d_Ref_moveAddress_13 : decode (jm_cod M_Ref_moveAddress) 13 = .ok (.aload_n 0, 1) := dt_Ref_moveAddress_c0 9
theorem d_Ref_moveAddress_14 : decode (jm_cod M_Ref_moveAddress) 14 = .ok (.iconst 0, 1) := dt_Ref_moveAddress_c0 10
theorem d_Ref_moveAddress_15 : decode (jm_cod M_Ref_moveAddress) 15 = .ok (.iload_n 3, 1) := dt_Ref_moveAddress_c0 11
theorem d_Ref_moveAddress_16 : decode (jm_cod M_Ref_moveAddress) 16 = .ok (.iload_n 2, 1) := dt_Ref_moveAddress_c0 12
theorem d_Ref_moveAddress_17 : decode (jm_cod M_Ref_moveAddress) 17 = .ok (.invokevirtual 388, 3) := dt_Ref_moveAddress_c0 13
theorem d_Ref_moveAddress_20 : decode (jm_cod M_Ref_moveAddress) 20 = .ok (.istore 4, 2) := dt_Ref_moveAddress_c0 14
theorem d_Ref_moveAddress_22 : decode (jm_cod M_Ref_moveAddress) 22 = .ok (.aload_n 0, 1) := dt_Ref_moveAddress_c0 15
theorem d_Ref_moveAddress_23 : decode (jm_cod M_Ref_moveAddress) 23 = .ok (.getfield 106, 3) := dt_Ref_moveAddress_c0 16
theorem d_Ref_moveAddress_26 : decode (jm_cod M_Ref_moveAddress) 26 = .ok (.iconst 4, 1) := dt_Ref_moveAddress_c0 17
theorem d_Ref_moveAddress_27 : decode (jm_cod M_Ref_moveAddress) 27 = .ok (.iload 4, 2) := dt_Ref_moveAddress_c0 18
theorem d_Ref_moveAddress_29 : decode (jm_cod M_Ref_moveAddress) 29 = .ok (.imul, 1) := dt_Ref_moveAddress_c0 19
theorem d_Ref_moveAddress_30 : decode (jm_cod M_Ref_moveAddress) 30 = .ok (.laload, 1) := dt_Ref_moveAddress_c0 20
theorem d_Ref_moveAddress_31 : decode (jm_cod M_Ref_moveAddress) 31 = .ok (.lstore 5, 2) := dt_Ref_moveAddress_c0 21
theorem d_Ref_moveAddress_33 : decode (jm_cod M_Ref_moveAddress) 33 = .ok (.aload_n 0, 1) := dt_Ref_moveAddress_c0 22
theorem d_Ref_moveAddress_34 : decode (jm_cod M_Ref_moveAddress) 34 = .ok (.iload 4, 2) := dt_Ref_moveAddress_c0 23
def tab_Ref_moveAddress_c1 : List (Nat × Instr × Nat) := [(36, .invokevirtual 473, 3), (39, .aload_n 0, 1), (40, .aload_n 0, 1), (41, .iconst 1, 1), (42, .iload_n 1, 1), (43, .iload_n 2, 1), (44, .invokevirtual 388, 3), (47, .lload 5, 2), (49, .ldc2_w 551, 3), (52, .iload_n 3, 1), (53, .i2l, 1), (54, .lmul, 1), (55, .ladd, 1), (56, .iconst 0, 1), (57, .aload_n 0, 1), (58, .getfield 348, 3), (61, .invokevirtual 469, 3), (64, .iload_n 2, 1), (65, .ifCond .ne 71, 3), (68, .aload_n 0, 1), (69, .getfield 139, 3), (72, .iload_n 1, 1), (73, .iload_n 3, 1), (74, .iastore, 1)]
theorem dt_Ref_moveAddress_c1 (i : Nat) : decode (jm_cod M_Ref_moveAddress) (tab_Ref_moveAddress_c1.getD i (36, .invokevirtual 473, 3)).1 = .ok ((tab_Ref_moveAddress_c1.getD i (36, .invokevirtual 473, 3)).2.1, (tab_Ref_moveAddress_c1.getD i (36, .invokevirtual 473, 3)).2.2) := j_tab (by decide +kernel) i
theorem d_Ref_moveAddress_36 : decode (jm_cod M_Ref_moveAddress) 36 = .ok (.invokevirtual 473, 3) := dt_Ref_moveAddress_c1 0
theorem d_Ref_moveAddress_39 : decode (jm_cod M_Ref_moveAddress) 39 = .ok (.aload_n 0, 1) := dt_Ref_moveAddress_c1 1
theorem d_Ref_moveAddress_40 : decode (jm_cod M_Ref_moveAddress) 40 = .ok (.aload_n 0, 1) := dt_Ref_moveAddress_c1 2
theorem d_Ref_moveAddress_41 : decode (jm_cod M_Ref_moveAddress) 41 = .ok (.iconst 1, 1) := dt_Ref_moveAddress_c1 3
theorem d_Ref_moveAddress_42 : decode (jm_cod M_Ref_moveAddress) 42 = .ok (.iload_n 1, 1) := dt_Ref_moveAddress_c1 4
theorem d_Ref_moveAddress_43 : decode (jm_cod M_Ref_moveAddress) 43 = .ok (.iload_n 2, 1) := dt_Ref_moveAddress_c1 5
theorem d_Ref_moveAddress_44 : decode (jm_cod M_Ref_moveAddress) 44 = .ok (.invokevirtual 388, 3) := dt_Ref_moveAddress_c1 6
theorem d_Ref_moveAddress_47 : decode (jm_cod M_Ref_moveAddress) 47 = .ok (.lload 5, 2) := dt_Ref_moveAddress_c1 7
theorem d_Ref_moveAddress_49 : decode (jm_cod M_Ref_moveAddress) 49 = .ok (.ldc2_w 551, 3) := dt_Ref_moveAddress_c1 8
theorem d_Ref_moveAddress_52 : decode (jm_cod M_Ref_moveAddress) 52 = .ok (.iload_n 3, 1) := dt_Ref_moveAddress_c1 9
theorem d_Ref_moveAddress_53 : decode (jm_cod M_Ref_moveAddress) 53 = .ok (.i2l, 1) := dt_Ref_moveAddress_c1 10
theorem d_Ref_moveAddress_54 : decode (jm_cod M_Ref_moveAddress) 54 = .ok (.lmul, 1) := dt_Ref_moveAddress_c1 11
theorem d_Ref_moveAddress_55 : decode (jm_cod M_Ref_moveAddress) 55 = .ok (.ladd, 1) := dt_Ref_moveAddress_c1 12
theorem d_Ref_moveAddress_56 : decode (jm_cod M_Ref_moveAddress) 56 = .ok (.iconst 0, 1) := dt_Ref_moveAddress_c1 13
theorem d_Ref_moveAddress_57 : decode (jm_cod M_Ref_moveAddress) 57 = .ok (.aload_n 0, 1) := dt_Ref_moveAddress_c1 14
theorem d_Ref_moveAddress_58 : decode (jm_cod M_Ref_moveAddress) 58 = .ok (.getfield 348, 3) := dt_Ref_moveAddress_c1 15
theorem d_Ref_moveAddress_61 : decode (jm_cod M_Ref_moveAddress) 61 = .ok (.invokevirtual 469, 3) := dt_Ref_moveAddress_c1 16
theorem d_Ref_moveAddress_64 : decode (jm_cod M_Ref_moveAddress) 64 = .ok (.iload_n 2, 1) := dt_Ref_moveAddress_c1 17
theorem d_Ref_moveAddress_65 : decode (jm_cod M_Ref_moveAddress) 65 = .ok (.ifCond .ne 71, 3) := dt_Ref_moveAddress_c1 18
theorem d_Ref_moveAddress_68 : decode (jm_cod M_Ref_moveAddress) 68 = .ok (.aload_n 0, 1) := dt_Ref_moveAddress_c1 19
theorem d_Ref_moveAddress_69 : decode (jm_cod M_Ref_moveAddress) 69 = .ok (.getfield 139, 3) := dt_Ref_moveAddress_c1 20
theorem d_Ref_moveAddress_72 : decode (jm_cod M_Ref_moveAddress) 72 = .ok (.iload_n 1, 1) := dt_Ref_moveAddress_c1 21
theorem d_Ref_moveAddress_73 : decode (jm_cod M_Ref_moveAddress) 73 = .ok (.iload_n 3, 1) := dt_Ref_moveAddress_c1 22
theorem d_Ref_moveAddress_74 : decode (jm_cod M_Ref_moveAddress) 74 = .ok (.iastore, 1) := dt_Ref_moveAddress_c1 23
def tab_Ref_moveAddress_c2 : List (Nat × Instr × Nat) := [(75, .aload_n 0, 1), (76, .getfield 118, 3), (79, .aload_n 0, 1), (80, .getfield 526, 3), (83, .iload_n 3, 1), (84, .iastore, 1), (85, .aload_n 0, 1), (86, .getfield 121, 3), (89, .aload_n 0, 1), (90, .getfield 526, 3), (93, .lload 5, 2), (95, .invokestatic 396, 3), (98, .iastore, 1), (99, .aload_n 0, 1), (100, .getfield 124, 3), (103, .aload_n 0, 1), (104, .getfield 526, 3), (107, .iload_n 1, 1), (108, .iastore, 1), (109, .aload_n 0, 1), (110, .getfield 127, 3), (113, .aload_n 0, 1), (114, .getfield 526, 3), (117, .lload 5, 2)]
theorem dt_Ref_moveAddress_c2 (i : Nat) : decode (jm_cod M_Ref_moveAddress) (tab_Ref_moveAddress_c2.getD i (75, .aload_n 0, 1)).1 = .ok ((tab_Ref_moveAddress_c2.getD i (75, .aload_n 0, 1)).2.1, (tab_Ref_moveAddress_c2.getD i (75, .aload_n 0, 1)).2.2) := j_tab (by decide +kernel) i
theorem d_Ref_moveAddress_75 : decode (jm_cod M_Ref_moveAddress) 75 = .ok (.aload_n 0, 1) := dt_Ref_moveAddress_c2 0
theorem d_Ref_moveAddress_76 : decode (jm_cod M_Ref_moveAddress) 76 = .ok (.getfield 118, 3) := dt_Ref_moveAddress_c2 1
theorem d_Ref_moveAddress_79 : decode (jm_cod M_Ref_moveAddress) 79 = .ok (.aload_n 0, 1) := dt_Ref_moveAddress_c2 2
theorem d_Ref_moveAddress_80 : decode (jm_cod M_Ref_moveAddress) 80 = .ok (.getfield 526, 3) := dt_Ref_moveAddress_c2 3
theorem d_Ref_moveAddress_83 : decode (jm_cod M_Ref_moveAddress) 83 = .ok (.iload_n 3, 1) := dt_Ref_moveAddress_c2 4
theorem d_Ref_moveAddress_84 : decode (jm_cod M_Ref_moveAddress) 84 = .ok (.iastore, 1) := dt_Ref_moveAddress_c2 5
theorem d_Ref_moveAddress_85 : decode (jm_cod M_Ref_moveAddress) 85 = .ok (.aload_n 0, 1) := dt_Ref_moveAddress_c2 6
theorem d_Ref_moveAddress_86 : decode (jm_cod M_Ref_moveAddress) 86 = .ok (.getfield 121, 3) := dt_Ref_moveAddress_c2 7
theorem d_Ref_moveAddress_89 : decode (jm_cod M_Ref_moveAddress) 89 = .ok (.aload_n 0, 1) := dt_Ref_moveAddress_c2 8
theorem d_Ref_moveAddress_90 : decode (jm_cod M_Ref_moveAddress) 90 = .ok (.getfield 526, 3) := dt_Ref_moveAddress_c2 9
theorem d_Ref_moveAddress_93 : decode (jm_cod M_Ref_moveAddress) 93 = .ok (.lload 5, 2) := dt_Ref_moveAddress_c2 10
theorem d_Ref_moveAddress_95 : decode (jm_cod M_Ref_moveAddress) 95 = .ok (.invokestatic 396, 3) := dt_Ref_moveAddress_c2 11
theorem d_Ref_moveAddress_98 : decode (jm_cod M_Ref_moveAddress) 98 = .ok (.iastore, 1) := dt_Ref_moveAddress_c2 12
theorem d_Ref_moveAddress_99 : decode (jm_cod M_Ref_moveAddress) 99 = .ok (.aload_n 0, 1) := dt_Ref_moveAddress_c2 13
theorem d_Ref_moveAddress_100 : decode (jm_cod M_Ref_moveAddress) 100 = .ok (.getfield 124, 3) := dt_Ref_moveAddress_c2 14
theorem d_Ref_moveAddress_103 : decode (jm_cod M_Ref_moveAddress) 103 = .ok (.aload_n 0, 1) := dt_Ref_moveAddress_c2 15
theorem d_Ref_moveAddress_104 : decode (jm_cod M_Ref_moveAddress) 104 = .ok (.getfield 526, 3) := dt_Ref_moveAddress_c2 16
theorem d_Ref_moveAddress_107 : decode (jm_cod M_Ref_moveAddress) 107 = .ok (.iload_n 1, 1) := dt_Ref_moveAddress_c2 17
theorem d_Ref_moveAddress_108 : decode (jm_cod M_Ref_moveAddress) 108 = .ok (.iastore, 1) := dt_Ref_moveAddress_c2 18
theorem d_Ref_moveAddress_109 : decode (jm_cod M_Ref_moveAddress) 109 = .ok (.aload_n 0, 1) := dt_Ref_moveAddress_c2 19
theorem d_Ref_moveAddress_110 : decode (jm_cod M_Ref_moveAddress) 110 = .ok (.getfield 127, 3) := dt_Ref_moveAddress_c2 20
theorem d_Ref_moveAddress_113 : decode (jm_cod M_Ref_moveAddress) 113 = .ok (.aload_n 0, 1) := dt_Ref_moveAddress_c2 21
theorem d_Ref_moveAddress_114 : decode (jm_cod M_Ref_moveAddress) 114 = .ok (.getfield 526, 3) := dt_Ref_moveAddress_c2 22
theorem d_Ref_moveAddress_117 : decode (jm_cod M_Ref_moveAddress) 117 = .ok (.lload 5, 2) := dt_Ref_moveAddress_c2 23
def tab_Ref_moveAddress_c3 : List (Nat × Instr × Nat) := [(119, .invokestatic 321, 3), (122, .iastore, 1), (123, .aload_n 0, 1), (124, .dup, 1), (125, .getfield 526, 3), (128, .iconst 1, 1), (129, .iadd, 1), (130, .putfield 526, 3), (133, .goto 54, 3), (136, .aload_n 0, 1), (137, .getfield 142, 3), (140, .iload_n 1, 1), (141, .iload_n 3, 1), (142, .iastore, 1), (143, .aload_n 0, 1), (144, .getfield 130, 3), (147, .aload_n 0, 1), (148, .getfield 529, 3), (151, .iload_n 3, 1), (152, .iastore, 1), (153, .aload_n 0, 1), (154, .getfield 133, 3), (157, .aload_n 0, 1), (158, .getfield 529, 3)]
theorem dt_Ref_moveAddress_c3 (i : Nat) : decode (jm_cod M_Ref_moveAddress) (tab_Ref_moveAddress_c3.getD i (119, .invokestatic 321, 3)).1 = .ok ((tab_Ref_moveAddress_c3.getD i (119, .invokestatic 321, 3)).2.1, (tab_Ref_moveAddress_c3.getD i (119, .invokestatic 321, 3)).2.2) := j_tab (by decide +kernel) i
theorem d_Ref_moveAddress_119 : decode (jm_cod M_Ref_moveAddress) 119 = .ok (.invokestatic 321, 3) := dt_Ref_moveAddress_c3 0
theorem d_Ref_moveAddress_122 : decode (jm_cod M_Ref_moveAddress) 122 = .ok (.iastore, 1) := dt_Ref_moveAddress_c3 1
theorem d_Ref_moveAddress_123 : decode (jm_cod M_Ref_moveAddress) 123 = .ok (.aload_n 0, 1) := dt_Ref_moveAddress_c3 2
theorem d_Ref_moveAddress_124 : decode (jm_cod M_Ref_moveAddress) 124 = .ok (.dup, 1) := dt_Ref_moveAddress_c3 3
theorem d_Ref_moveAddress_125 : decode (jm_cod M_Ref_moveAddress) 125 = .ok (.getfield 526, 3) := dt_Ref_moveAddress_c3 4
theorem d_Ref_moveAddress_128 : decode (jm_cod M_Ref_moveAddress) 128 = .ok (.iconst 1, 1) := dt_Ref_moveAddress_c3 5
theorem d_Ref_moveAddress_129 : decode (jm_cod M_Ref_moveAddress) 129 = .ok (.iadd, 1) := dt_Ref_moveAddress_c3 6
theorem d_Ref_moveAddress_130 : decode (jm_cod M_Ref_moveAddress) 130 = .ok (.putfield 526, 3) := dt_Ref_moveAddress_c3 7
theorem d_Ref_moveAddress_133 : decode (jm_cod M_Ref_moveAddress) 133 = .ok (.goto 54, 3) := dt_Ref_moveAddress_c3 8
theorem d_Ref_moveAddress_136 : decode (jm_cod M_Ref_moveAddress) 136 = .ok (.aload_n 0, 1) := dt_Ref_moveAddress_c3 9
theorem d_Ref_moveAddress_137 : decode (jm_cod M_Ref_moveAddress) 137 = .ok (.getfield 142, 3) := dt_Ref_moveAddress_c3 10
theorem d_Ref_moveAddress_140 : decode (jm_cod M_Ref_moveAddress) 140 = .ok (.iload_n 1, 1) := dt_Ref_moveAddress_c3 11
theorem d_Ref_moveAddress_141 : decode (jm_cod M_Ref_moveAddress) 141 = .ok (.iload_n 3, 1) := dt_Ref_moveAddress_c3 12
theorem d_Ref_moveAddress_142 : decode (jm_cod M_Ref_moveAddress) 142 = .ok (.iastore, 1) := dt_Ref_moveAddress_c3 13
theorem d_Ref_moveAddress_143 : decode (jm_cod M_Ref_moveAddress) 143 = .ok (.aload_n 0, 1) := dt_Ref_moveAddress_c3 14
theorem d_Ref_moveAddress_144 : decode (jm_cod M_Ref_moveAddress) 144 = .ok (.getfield 130, 3) := dt_Ref_moveAddress_c3 15
theorem d_Ref_moveAddress_147 : decode (jm_cod M_Ref_moveAddress) 147 = .ok (.aload_n 0, 1) := dt_Ref_moveAddress_c3 16
theorem d_Ref_moveAddress_148 : decode (jm_cod M_Ref_moveAddress) 148 = .ok (.getfield 529, 3) := dt_Ref_moveAddress_c3 17
theorem d_Ref_moveAddress_151 : decode (jm_cod M_Ref_moveAddress) 151 = .ok (.iload_n 3, 1) := dt_Ref_moveAddress_c3 18
theorem d_Ref_moveAddress_152 : decode (jm_cod M_Ref_moveAddress) 152 = .ok (.iastore, 1) := dt_Ref_moveAddress_c3 19
theorem d_Ref_moveAddress_153 : decode (jm_cod M_Ref_moveAddress) 153 = .ok (.aload_n 0, 1) := dt_Ref_moveAddress_c3 20
theorem d_Ref_moveAddress_154 : decode (jm_cod M_Ref_moveAddress) 154 = .ok (.getfield 133, 3) := dt_Ref_moveAddress_c3 21
theorem d_Ref_moveAddress_157 : decode (jm_cod M_Ref_moveAddress) 157 = .ok (.aload_n 0, 1) := dt_Ref_moveAddress_c3 22
theorem d_Ref_moveAddress_158 : decode (jm_cod M_Ref_moveAddress) 158 = .ok (.getfield 529, 3) := dt_Ref_moveAddress_c3 23
def tab_Ref_moveAddress_c4 : List (Nat × Instr × Nat) := [(161, .lload 5, 2), (163, .invokestatic 396, 3), (166, .iastore, 1), (167, .aload_n 0, 1), (168, .getfield 136, 3), (171, .aload_n 0, 1), (172, .getfield 529, 3), (175, .iload_n 1, 1), (176, .iastore, 1), (177, .aload_n 0, 1), (178, .dup, 1), (179, .getfield 529, 3), (182, .iconst 1, 1), (183, .iadd, 1), (184, .putfield 529, 3), (187, .return_, 1)]
theorem dt_Ref_moveAddress_c4 (i : Nat) : decode (jm_cod M_Ref_moveAddress) (tab_Ref_moveAddress_c4.getD i (161, .lload 5, 2)).1 = .ok ((tab_Ref_moveAddress_c4.getD i (161, .lload 5, 2)).2.1, (tab_Ref_moveAddress_c4.getD i (161, .lload 5, 2)).2.2) := j_tab (by decide +kernel) i
theorem d_Ref_moveAddress_161 : decode (jm_cod M_Ref_moveAddress) 161 = .ok (.lload 5, 2) := dt_Ref_moveAddress_c4 0
theorem d_Ref_moveAddress_163 : decode (jm_cod M_Ref_moveAddress) 163 = .ok (.invokestatic 396, 3) := dt_Ref_moveAddress_c4 1
theorem d_Ref_moveAddress_166 : decode (jm_cod M_Ref_moveAddress) 166 = .ok (.iastore, 1) := dt_Ref_moveAddress_c4 2
theorem d_Ref_moveAddress_167 : decode (jm_cod M_Ref_moveAddress) 167 = .ok (.aload_n 0, 1) := dt_Ref_moveAddress_c4 3
theorem d_Ref_moveAddress_168 : decode (jm_cod M_Ref_moveAddress) 168 = .ok (.getfield 136, 3) := dt_Ref_moveAddress_c4 4
theorem d_Ref_moveAddress_171 : decode (jm_cod M_Ref_moveAddress) 171 = .ok (.aload_n 0, 1) := dt_Ref_moveAddress_c4 5
theorem d_Ref_moveAddress_172 : decode (jm_cod M_Ref_moveAddress) 172 = .ok (.getfield 529, 3) := dt_Ref_moveAddress_c4 6
theorem d_Ref_moveAddress_175 : decode (jm_cod M_Ref_moveAddress) 175 = .ok (.iload_n 1, 1) := dt_Ref_moveAddress_c4 7
theorem d_Ref_moveAddress_176 : decode (jm_cod M_Ref_moveAddress) 176 = .ok (.iastore, 1) := dt_Ref_moveAddress_c4 8
theorem d_Ref_moveAddress_177 : decode (jm_cod M_Ref_moveAddress) 177 = .ok (.aload_n 0, 1) := dt_Ref_moveAddress_c4 9
theorem d_Ref_moveAddress_178 : decode (jm_cod M_Ref_moveAddress) 178 = .ok (.dup, 1) := dt_Ref_moveAddress_c4 10
theorem d_Ref_moveAddress_179 : decode (jm_cod M_Ref_moveAddress) 179 = .ok (.getfield 529, 3) := dt_Ref_moveAddress_c4 11
theorem d_Ref_moveAddress_182 : decode (jm_cod M_Ref_moveAddress) 182 = .ok (.iconst 1, 1) := dt_Ref_moveAddress_c4 12
theorem d_Ref_moveAddress_183 : decode (jm_cod M_Ref_moveAddress) 183 = .ok (.iadd, 1) := dt_Ref_moveAddress_c4 13
theorem d_Ref_moveAddress_184 : decode (jm_cod M_Ref_moveAddress) 184 = .ok (.putfield 529, 3) := dt_Ref_moveAddress_c4 14
theorem d_Ref_moveAddress_187 : decode (jm_cod M_Ref_moveAddress) 187 = .ok (.return_, 1) := dt_Ref_moveAddress_c4 15
def tab_Ref_choose_c0 : List (Nat × Instr × Nat) := [(0, .iload_n 2, 1), (1, .ifCond .ne 12, 3), (4, .aload_n 0, 1), (5, .getfield 139, 3), (8, .iload_n 1, 1), (9, .iaload, 1), (10, .goto 9, 3), (13, .aload_n 0, 1), (14, .getfield 142, 3), (17, .iload_n 1, 1), (18, .iaload, 1), (19, .istore_n 3, 1), (20, .iconst (-1), 1), (21, .istore 4, 2), (23, .iconst 1, 1), (24, .istore 5, 2), (26, .iload 5, 2), (28, .aload_n 0, 1), (29, .getfield 290, 3), (32, .if_icmp .gt 75, 3), (35, .iload_n 3, 1), (36, .iload 5, 2), (38, .iadd, 1), (39, .aload_n 0, 1)]
theorem dt_Ref_choose_c0 (i : Nat) : decode (jm_cod M_Ref_choose) (tab_Ref_choose_c0.getD i (0, .iload_n 2, 1)).1 = .ok ((tab_Ref_choose_c0.getD i (0, .iload_n 2, 1)).2.1, (tab_Ref_choose_c0.getD i (0, .iload_n 2, 1)).2.2) := j_tab (by decide +kernel) i
theorem d_Ref_choose_0 : decode (jm_cod M_Ref_choose) 0 = .ok (.iload_n 2, 1) := dt_Ref_choose_c0 0
theorem d_Ref_choose_1 : decode (jm_cod M_Ref_choose) 1 = .ok (.ifCond .ne 12, 3) := dt_Ref_choose_c0 1
theorem d_Ref_choose_4 : decode (jm_cod M_Ref_choose) 4 = .ok (.aload_n 0, 1) := dt_Ref_choose_c0 2
theorem d_Ref_choose_5 : decode (jm_cod M_Ref_choose) 5 = .ok (.getfield 139, 3) := dt_Ref_choose_c0 3
theorem d_Ref_choose_8 : decode (jm_cod M_Ref_choose) 8 = .ok (.iload_n 1, 1) := dt_Ref_choose_c0 4
theorem d_Ref_choose_9 : decode (jm_cod M_Ref_choose) 9 = .ok (.iaload, 1) := dt_Ref_choose_c0 5
theorem d_Ref_choose_10 : decode (jm_cod M_Ref_choose) 10 = .ok (.goto 9, 3) := dt_Ref_choose_c0 6
theorem d_Ref_choose_13 : decode (jm_cod M_Ref_choose) 13 = .ok (.aload_n 0, 1) := dt_Ref_choose_c0 7
theorem d_Ref_choose_14 : decode (jm_cod M_Ref_choose) 14 = .ok (.getfield 142, 3) := dt_Ref_choose_c0 8
theorem d_Ref_choose_17 : decode (jm_cod M_Ref_choose) 17 = .ok (.iload_n 1, 1) := dt_Ref_choose_c0 9
theorem d_Ref_choose_18 : decode (jm_cod M_Ref_choose) 18 = .ok (.iaload, 1) := dt_Ref_choose_c0 10
theorem d_Ref_choose_19 : decode (jm_cod M_Ref_choose) 19 = .ok (.istore_n 3, 1) := dt_Ref_choose_c0 11
theorem d_Ref_choose_20 : decode (jm_cod M_Ref_choose) 20 = .ok (.iconst (-1), 1) := dt_Ref_choose_c0 12
theorem d_Ref_choose_21 : decode (jm_cod M_Ref_choose) 21 = .ok (.istore 4, 2) := dt_Ref_choose_c0 13
theorem d_Ref_choose_23 : decode (jm_cod M_Ref_choose) 23 = .ok (.iconst 1, 1) := dt_Ref_choose_c0 14
theorem d_Ref_choose_24 : decode (jm_cod M_Ref_choose) 24 = .ok (.istore 5, 2) := dt_Ref_choose_c0 15
theorem d_Ref_choose_26 : decode (jm_cod M_Ref_choose) 26 = .ok (.iload 5, 2) := dt_Ref_choose_c0 16
theorem d_Ref_choose_28 : decode (jm_cod M_Ref_choose) 28 = .ok (.aload_n 0, 1) := dt_Ref_choose_c0 17
theorem d_Ref_choose_29 : decode (jm_cod M_Ref_choose) 29 = .ok (.getfield 290, 3) := dt_Ref_choose_c0 18
theorem d_Ref_choose_32 : decode (jm_cod M_Ref_choose) 32 = .ok (.if_icmp .gt 75, 3) := dt_Ref_choose_c0 19
theorem d_Ref_choose_35 : decode (jm_cod M_Ref_choose) 35 = .ok (.iload_n 3, 1) := dt_Ref_choose_c0 20
theorem d_Ref_choose_36 : decode (jm_cod M_Ref_choose) 36 = .ok (.iload 5, 2) := dt_Ref_choose_c0 21
theorem d_Ref_choose_38 : decode (jm_cod M_Ref_choose) 38 = .ok (.iadd, 1) := dt_Ref_choose_c0 22
theorem d_Ref_choose_39 : decode (jm_cod M_Ref_choose) 39 = .ok (.aload_n 0, 1) := dt_Ref_choose_c0 23
def tab_Ref_choose_c1 : List (Nat × Instr × Nat) := [(40, .getfield 290, 3), (43, .irem, 1), (44, .istore 6, 2), (46, .iload_n 2, 1), (47, .ifCond .ne 13, 3), (50, .aload_n 0, 1), (51, .iload 6, 2), (53, .iload_n 1, 1), (54, .invokevirtual 538, 3), (57, .goto 10, 3), (60, .aload_n 0, 1), (61, .iload 6, 2), (63, .iload_n 1, 1), (64, .invokevirtual 541, 3), (67, .istore 7, 2), (69, .iload 7, 2), (71, .ifCond .eq 26, 3), (74, .iload 4, 2), (76, .iconst (-1), 1), (77, .if_icmp .eq 15, 3), (80, .aload_n 0, 1), (81, .iload 6, 2), (83, .iload 4, 2), (85, .iload_n 2, 1)]
theorem dt_Ref_choose_c1 (i : Nat) : decode (jm_cod M_Ref_choose) (tab_Ref_choose_c1.getD i (40, .getfield 290, 3)).1 = .ok ((tab_Ref_choose_c1.getD i (40, .getfield 290, 3)).2.1, (tab_Ref_choose_c1.getD i (40, .getfield 290, 3)).2.2) := j_tab (by decide +kernel) i
theorem d_Ref_choose_40 : decode (jm_cod M_Ref_choose) 40 = .ok (.getfield 290, 3) := dt_Ref_choose_c1 0
theorem d_Ref_choose_43 : decode (jm_cod M_Ref_choose) 43 = .ok (.irem, 1) := dt_Ref_choose_c1 1
theorem d_Ref_choose_44 : decode (jm_cod M_Ref_choose) 44 = .ok (.istore 6, 2) := dt_Ref_choose_c1 2
theorem d_Ref_choose_46 : decode (jm_cod M_Ref_choose) 46 = .ok (.iload_n 2, 1) := dt_Ref_choose_c1 3
theorem d_Ref_choose_47 : decode (jm_cod M_Ref_choose) 47 = .ok (.ifCond .ne 13, 3) := dt_Ref_choose_c1 4
theorem d_Ref_choose_50 : decode (jm_cod M_Ref_choose) 50 = .ok (.aload_n 0, 1) := dt_Ref_choose_c1 5
theorem d_Ref_choose_51 : decode (jm_cod M_Ref_choose) 51 = .ok (.iload 6, 2) := dt_Ref_choose_c1 6
theorem d_Ref_choose_53 : decode (jm_cod M_Ref_choose) 53 = .ok (.iload_n 1, 1) := dt_Ref_choose_c1 7
theorem d_Ref_choose_54 : decode (jm_cod M_Ref_choose) 54 = .ok (.invokevirtual 538, 3) := dt_Ref_choose_c1 8
theorem d_Ref_choose_57 : decode (jm_cod M_Ref_choose) 57 = .ok (.goto 10, 3) := dt_Ref_choose_c1 9
theorem d_Ref_choose_60 : decode (jm_cod M_Ref_choose) 60 = .ok (.aload_n 0, 1) := dt_Ref_choose_c1 10
theorem d_Ref_choose_61 : decode (jm_cod M_Ref_choose) 61 = .ok (.iload 6, 2) := dt_Ref_choose_c1 11
theorem d_Ref_choose_63 : decode (jm_cod M_Ref_choose) 63 = .ok (.iload_n 1, 1) := dt_Ref_choose_c1 12
theorem d_Ref_choose_64 : decode (jm_cod M_Ref_choose) 64 = .ok (.invokevirtual 541, 3) := dt_Ref_choose_c1 13
theorem d_Ref_choose_67 : decode (jm_cod M_Ref_choose) 67 = .ok (.istore 7, 2) := dt_Ref_choose_c1 14
theorem d_Ref_choose_69 : decode (jm_cod M_Ref_choose) 69 = .ok (.iload 7, 2) := dt_Ref_choose_c1 15
theorem d_Ref_choose_71 : decode (jm_cod M_Ref_choose) 71 = .ok (.ifCond .eq 26, 3) := dt_Ref_choose_c1 16
theorem d_Ref_choose_74 : decode (jm_cod M_Ref_choose) 74 = .ok (.iload 4, 2) := dt_Ref_choose_c1 17
theorem d_Ref_choose_76 : decode (jm_cod M_Ref_choose) 76 = .ok (.iconst (-1), 1) := dt_Ref_choose_c1 18
theorem d_Ref_choose_77 : decode (jm_cod M_Ref_choose) 77 = .ok (.if_icmp .eq 15, 3) := dt_Ref_choose_c1 19
theorem d_Ref_choose_80 : decode (jm_cod M_Ref_choose) 80 = .ok (.aload_n 0, 1) := dt_Ref_choose_c1 20
theorem d_Ref_choose_81 : decode (jm_cod M_Ref_choose) 81 = .ok (.iload 6, 2) := dt_Ref_choose_c1 21
theorem d_Ref_choose_83 : decode (jm_cod M_Ref_choose) 83 = .ok (.iload 4, 2) := dt_Ref_choose_c1 22
theorem d_Ref_choose_85 : decode (jm_cod M_Ref_choose) 85 = .ok (.iload_n 2, 1) := dt_Ref_choose_c1 23
