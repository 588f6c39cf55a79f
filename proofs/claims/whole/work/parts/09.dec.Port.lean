def tab_Port_init_c0 : List (Nat × Instr × Nat) := [(0, .aload_n 0, 1), (1, .invokespecial 3, 3), (4, .aload_n 0, 1), (5, .iconst 5, 1), (6, .newarray .boolean, 2), (8, .putfield 9, 3), (11, .aload_n 0, 1), (12, .iconst 5, 1), (13, .newarray .boolean, 2), (15, .putfield 15, 3), (18, .aload_n 0, 1), (19, .iconst 5, 1), (20, .newarray .boolean, 2), (22, .putfield 18, 3), (25, .aload_n 0, 1), (26, .iconst 5, 1), (27, .newarray .long, 2), (29, .putfield 21, 3), (32, .aload_n 0, 1), (33, .iconst 5, 1), (34, .newarray .int, 2), (36, .putfield 25, 3), (39, .aload_n 0, 1), (40, .iconst 5, 1)]
theorem dt_Port_init_c0 (i : Nat) : decode (jm_cod M_Port_init) (tab_Port_init_c0.getD i (0, .aload_n 0, 1)).1 = .ok ((tab_Port_init_c0.getD i (0, .aload_n 0, 1)).2.1, (tab_Port_init_c0.getD i (0, .aload_n 0, 1)).2.2) := j_tab (by decide +kernel) i
theorem d_Port_init_0 : decode (jm_cod M_Port_init) 0 = .ok (.aload_n 0, 1) := dt_Port_init_c0 0
theorem d_Port_init_1 : decode (jm_cod M_Port_init) 1 = .ok (.invokespecial 3, 3) := dt_Port_init_c0 1
theorem d_Port_init_4 : decode (jm_cod M_Port_init) 4 = .ok (.aload_n 0, 1) := dt_Port_init_c0 2
theorem d_Port_init_5 : decode (jm_cod M_Port_init) 5 = .ok (.iconst 5, 1) := dt_Port_init_c0 3
theorem d_Port_init_6 : decode (jm_cod M_Port_init) 6 = .ok (.newarray .boolean, 2) := dt_Port_init_c0 4
theorem d_Port_init_8 : decode (jm_cod M_Port_init) 8 = .ok (.putfield 9, 3) := dt_Port_init_c0 5
theorem d_Port_init_11 : decode (jm_cod M_Port_init) 11 = .ok (.aload_n 0, 1) := dt_Port_init_c0 6
theorem d_Port_init_12 : decode (jm_cod M_Port_init) 12 = .ok (.iconst 5, 1) := dt_Port_init_c0 7
theorem d_Port_init_13 : decode (jm_cod M_Port_init) 13 = .ok (.newarray .boolean, 2) := dt_Port_init_c0 8
theorem d_Port_init_15 : decode (jm_cod M_Port_init) 15 = .ok (.putfield 15, 3) := dt_Port_init_c0 9
theorem d_Port_init_18 : decode (jm_cod M_Port_init) 18 = .ok (.aload_n 0, 1) := dt_Port_init_c0 10
theorem d_Port_init_19 : decode (jm_cod M_Port_init) 19 = .ok (.iconst 5, 1) := dt_Port_init_c0 11
theorem d_Port_init_20 : decode (jm_cod M_Port_init) 20 = .ok (.newarray .boolean, 2) := dt_Port_init_c0 12
theorem d_Port_init_22 : decode (jm_cod M_Port_init) 22 = .ok (.putfield 18, 3) := dt_Port_init_c0 13
theorem d_Port_init_25 : decode (jm_cod M_Port_init) 25 = .ok (.aload_n 0, 1) := dt_Port_init_c0 14
theorem d_Port_init_26 : decode (jm_cod M_Port_init) 26 = .ok (.iconst 5, 1) := dt_Port_init_c0 15
theorem d_Port_init_27 : decode (jm_cod M_Port_init) 27 = .ok (.newarray .long, 2) := dt_Port_init_c0 16
theorem d_Port_init_29 : decode (jm_cod M_Port_init) 29 = .ok (.putfield 21, 3) := dt_Port_init_c0 17
theorem d_Port_init_32 : decode (jm_cod M_Port_init) 32 = .ok (.aload_n 0, 1) := dt_Port_init_c0 18
theorem d_Port_init_33 : decode (jm_cod M_Port_init) 33 = .ok (.iconst 5, 1) := dt_Port_init_c0 19
theorem d_Port_init_34 : decode (jm_cod M_Port_init) 34 = .ok (.newarray .int, 2) := dt_Port_init_c0 20
theorem d_Port_init_36 : decode (jm_cod M_Port_init) 36 = .ok (.putfield 25, 3) := dt_Port_init_c0 21
theorem d_Port_init_39 : decode (jm_cod M_Port_init) 39 = .ok (.aload_n 0, 1) := dt_Port_init_c0 22
theorem d_Port_init_40 : decode (jm_cod M_Port_init) 40 = .ok (.iconst 5, 1) := dt_Port_init_c0 23
def tab_Port_init_c1 : List (Nat × Instr × Nat) := [(41, .newarray .int, 2), (43, .putfield 29, 3), (46, .aload_n 0, 1), (47, .new 32, 3), (50, .dup, 1), (51, .invokespecial 34, 3), (54, .putfield 35, 3), (57, .return_, 1)]
theorem dt_Port_init_c1 (i : Nat) : decode (jm_cod M_Port_init) (tab_Port_init_c1.getD i (41, .newarray .int, 2)).1 = .ok ((tab_Port_init_c1.getD i (41, .newarray .int, 2)).2.1, (tab_Port_init_c1.getD i (41, .newarray .int, 2)).2.2) := j_tab (by decide +kernel) i
theorem d_Port_init_41 : decode (jm_cod M_Port_init) 41 = .ok (.newarray .int, 2) := dt_Port_init_c1 0
theorem d_Port_init_43 : decode (jm_cod M_Port_init) 43 = .ok (.putfield 29, 3) := dt_Port_init_c1 1
theorem d_Port_init_46 : decode (jm_cod M_Port_init) 46 = .ok (.aload_n 0, 1) := dt_Port_init_c1 2
theorem d_Port_init_47 : decode (jm_cod M_Port_init) 47 = .ok (.new 32, 3) := dt_Port_init_c1 3
theorem d_Port_init_50 : decode (jm_cod M_Port_init) 50 = .ok (.dup, 1) := dt_Port_init_c1 4
theorem d_Port_init_51 : decode (jm_cod M_Port_init) 51 = .ok (.invokespecial 34, 3) := dt_Port_init_c1 5
theorem d_Port_init_54 : decode (jm_cod M_Port_init) 54 = .ok (.putfield 35, 3) := dt_Port_init_c1 6
theorem d_Port_init_57 : decode (jm_cod M_Port_init) 57 = .ok (.return_, 1) := dt_Port_init_c1 7
def tab_Port_reset_c0 : List (Nat × Instr × Nat) := [(0, .aload_n 0, 1), (1, .invokevirtual 39, 3), (4, .iconst 0, 1), (5, .istore_n 1, 1), (6, .iload_n 1, 1), (7, .iconst 5, 1), (8, .if_icmp .ge 23, 3), (11, .aload_n 0, 1), (12, .getfield 18, 3), (15, .iload_n 1, 1), (16, .iconst 0, 1), (17, .bastore, 1), (18, .aload_n 0, 1), (19, .getfield 29, 3), (22, .iload_n 1, 1), (23, .iconst 0, 1), (24, .iastore, 1), (25, .iinc 1 1, 3), (28, .goto (-22), 3), (31, .aload_n 0, 1), (32, .getfield 35, 3), (35, .invokevirtual 42, 3), (38, .return_, 1)]
theorem dt_Port_reset_c0 (i : Nat) : decode (jm_cod M_Port_reset) (tab_Port_reset_c0.getD i (0, .aload_n 0, 1)).1 = .ok ((tab_Port_reset_c0.getD i (0, .aload_n 0, 1)).2.1, (tab_Port_reset_c0.getD i (0, .aload_n 0, 1)).2.2) := j_tab (by decide +kernel) i
theorem d_Port_reset_0 : decode (jm_cod M_Port_reset) 0 = .ok (.aload_n 0, 1) := dt_Port_reset_c0 0
theorem d_Port_reset_1 : decode (jm_cod M_Port_reset) 1 = .ok (.invokevirtual 39, 3) := dt_Port_reset_c0 1
theorem d_Port_reset_4 : decode (jm_cod M_Port_reset) 4 = .ok (.iconst 0, 1) := dt_Port_reset_c0 2
theorem d_Port_reset_5 : decode (jm_cod M_Port_reset) 5 = .ok (.istore_n 1, 1) := dt_Port_reset_c0 3
theorem d_Port_reset_6 : decode (jm_cod M_Port_reset) 6 = .ok (.iload_n 1, 1) := dt_Port_reset_c0 4
theorem d_Port_reset_7 : decode (jm_cod M_Port_reset) 7 = .ok (.iconst 5, 1) := dt_Port_reset_c0 5
theorem d_Port_reset_8 : decode (jm_cod M_Port_reset) 8 = .ok (.if_icmp .ge 23, 3) := dt_Port_reset_c0 6
theorem d_Port_reset_11 : decode (jm_cod M_Port_reset) 11 = .ok (.aload_n 0, 1) := dt_Port_reset_c0 7
theorem d_Port_reset_12 : decode (jm_cod M_Port_reset) 12 = .ok (.getfield 18, 3) := dt_Port_reset_c0 8
theorem d_Port_reset_15 : decode (jm_cod M_Port_reset) 15 = .ok (.iload_n 1, 1) := dt_Port_reset_c0 9
theorem d_Port_reset_16 : decode (jm_cod M_Port_reset) 16 = .ok (.iconst 0, 1) := dt_Port_reset_c0 10
theorem d_Port_reset_17 : decode (jm_cod M_Port_reset) 17 = .ok (.bastore, 1) := dt_Port_reset_c0 11
theorem d_Port_reset_18 : decode (jm_cod M_Port_reset) 18 = .ok (.aload_n 0, 1) := dt_Port_reset_c0 12
theorem d_Port_reset_19 : decode (jm_cod M_Port_reset) 19 = .ok (.getfield 29, 3) := dt_Port_reset_c0 13
theorem d_Port_reset_22 : decode (jm_cod M_Port_reset) 22 = .ok (.iload_n 1, 1) := dt_Port_reset_c0 14
theorem d_Port_reset_23 : decode (jm_cod M_Port_reset) 23 = .ok (.iconst 0, 1) := dt_Port_reset_c0 15
theorem d_Port_reset_24 : decode (jm_cod M_Port_reset) 24 = .ok (.iastore, 1) := dt_Port_reset_c0 16
theorem d_Port_reset_25 : decode (jm_cod M_Port_reset) 25 = .ok (.iinc 1 1, 3) := dt_Port_reset_c0 17
theorem d_Port_reset_28 : decode (jm_cod M_Port_reset) 28 = .ok (.goto (-22), 3) := dt_Port_reset_c0 18
theorem d_Port_reset_31 : decode (jm_cod M_Port_reset) 31 = .ok (.aload_n 0, 1) := dt_Port_reset_c0 19
theorem d_Port_reset_32 : decode (jm_cod M_Port_reset) 32 = .ok (.getfield 35, 3) := dt_Port_reset_c0 20
theorem d_Port_reset_35 : decode (jm_cod M_Port_reset) 35 = .ok (.invokevirtual 42, 3) := dt_Port_reset_c0 21
theorem d_Port_reset_38 : decode (jm_cod M_Port_reset) 38 = .ok (.return_, 1) := dt_Port_reset_c0 22
def tab_Port_silenceAll_c0 : List (Nat × Instr × Nat) := [(0, .iconst 0, 1), (1, .istore_n 1, 1), (2, .iload_n 1, 1), (3, .iconst 5, 1), (4, .if_icmp .ge 14, 3), (7, .aload_n 0, 1), (8, .iload_n 1, 1), (9, .invokevirtual 45, 3), (12, .iinc 1 1, 3), (15, .goto (-13), 3), (18, .return_, 1)]
theorem dt_Port_silenceAll_c0 (i : Nat) : decode (jm_cod M_Port_silenceAll) (tab_Port_silenceAll_c0.getD i (0, .iconst 0, 1)).1 = .ok ((tab_Port_silenceAll_c0.getD i (0, .iconst 0, 1)).2.1, (tab_Port_silenceAll_c0.getD i (0, .iconst 0, 1)).2.2) := j_tab (by decide +kernel) i
theorem d_Port_silenceAll_0 : decode (jm_cod M_Port_silenceAll) 0 = .ok (.iconst 0, 1) := dt_Port_silenceAll_c0 0
theorem d_Port_silenceAll_1 : decode (jm_cod M_Port_silenceAll) 1 = .ok (.istore_n 1, 1) := dt_Port_silenceAll_c0 1
theorem d_Port_silenceAll_2 : decode (jm_cod M_Port_silenceAll) 2 = .ok (.iload_n 1, 1) := dt_Port_silenceAll_c0 2
theorem d_Port_silenceAll_3 : decode (jm_cod M_Port_silenceAll) 3 = .ok (.iconst 5, 1) := dt_Port_silenceAll_c0 3
theorem d_Port_silenceAll_4 : decode (jm_cod M_Port_silenceAll) 4 = .ok (.if_icmp .ge 14, 3) := dt_Port_silenceAll_c0 4
theorem d_Port_silenceAll_7 : decode (jm_cod M_Port_silenceAll) 7 = .ok (.aload_n 0, 1) := dt_Port_silenceAll_c0 5
theorem d_Port_silenceAll_8 : decode (jm_cod M_Port_silenceAll) 8 = .ok (.iload_n 1, 1) := dt_Port_silenceAll_c0 6
theorem d_Port_silenceAll_9 : decode (jm_cod M_Port_silenceAll) 9 = .ok (.invokevirtual 45, 3) := dt_Port_silenceAll_c0 7
theorem d_Port_silenceAll_12 : decode (jm_cod M_Port_silenceAll) 12 = .ok (.iinc 1 1, 3) := dt_Port_silenceAll_c0 8
theorem d_Port_silenceAll_15 : decode (jm_cod M_Port_silenceAll) 15 = .ok (.goto (-13), 3) := dt_Port_silenceAll_c0 9
theorem d_Port_silenceAll_18 : decode (jm_cod M_Port_silenceAll) 18 = .ok (.return_, 1) := dt_Port_silenceAll_c0 10
def tab_Port_silence_c0 : List (Nat × Instr × Nat) := [(0, .aload_n 0, 1), (1, .getfield 9, 3), (4, .iload_n 1, 1), (5, .iconst 0, 1), (6, .bastore, 1), (7, .aload_n 0, 1), (8, .getfield 15, 3), (11, .iload_n 1, 1), (12, .iconst 0, 1), (13, .bastore, 1), (14, .aload_n 0, 1), (15, .getfield 21, 3), (18, .iload_n 1, 1), (19, .lconst 0, 1), (20, .lastore, 1), (21, .aload_n 0, 1), (22, .getfield 25, 3), (25, .iload_n 1, 1), (26, .iconst 0, 1), (27, .iastore, 1), (28, .return_, 1)]
theorem dt_Port_silence_c0 (i : Nat) : decode (jm_cod M_Port_silence) (tab_Port_silence_c0.getD i (0, .aload_n 0, 1)).1 = .ok ((tab_Port_silence_c0.getD i (0, .aload_n 0, 1)).2.1, (tab_Port_silence_c0.getD i (0, .aload_n 0, 1)).2.2) := j_tab (by decide +kernel) i
theorem d_Port_silence_0 : decode (jm_cod M_Port_silence) 0 = .ok (.aload_n 0, 1) := dt_Port_silence_c0 0
theorem d_Port_silence_1 : decode (jm_cod M_Port_silence) 1 = .ok (.getfield 9, 3) := dt_Port_silence_c0 1
theorem d_Port_silence_4 : decode (jm_cod M_Port_silence) 4 = .ok (.iload_n 1, 1) := dt_Port_silence_c0 2
theorem d_Port_silence_5 : decode (jm_cod M_Port_silence) 5 = .ok (.iconst 0, 1) := dt_Port_silence_c0 3
theorem d_Port_silence_6 : decode (jm_cod M_Port_silence) 6 = .ok (.bastore, 1) := dt_Port_silence_c0 4
theorem d_Port_silence_7 : decode (jm_cod M_Port_silence) 7 = .ok (.aload_n 0, 1) := dt_Port_silence_c0 5
theorem d_Port_silence_8 : decode (jm_cod M_Port_silence) 8 = .ok (.getfield 15, 3) := dt_Port_silence_c0 6
theorem d_Port_silence_11 : decode (jm_cod M_Port_silence) 11 = .ok (.iload_n 1, 1) := dt_Port_silence_c0 7
theorem d_Port_silence_12 : decode (jm_cod M_Port_silence) 12 = .ok (.iconst 0, 1) := dt_Port_silence_c0 8
theorem d_Port_silence_13 : decode (jm_cod M_Port_silence) 13 = .ok (.bastore, 1) := dt_Port_silence_c0 9
theorem d_Port_silence_14 : decode (jm_cod M_Port_silence) 14 = .ok (.aload_n 0, 1) := dt_Port_silence_c0 10
theorem d_Port_silence_15 : decode (jm_cod M_Port_silence) 15 = .ok (.getfield 21, 3) := dt_Port_silence_c0 11
theorem d_Port_silence_18 : decode (jm_cod M_Port_silence) 18 = .ok (.iload_n 1, 1) := dt_Port_silence_c0 12
theorem d_Port_silence_19 : decode (jm_cod M_Port_silence) 19 = .ok (.lconst 0, 1) := dt_Port_silence_c0 13
theorem d_Port_silence_20 : decode (jm_cod M_Port_silence) 20 = .ok (.lastore, 1) := dt_Port_silence_c0 14
theorem d_Port_silence_21 : decode (jm_cod M_Port_silence) 21 = .ok (.aload_n 0, 1) := dt_Port_silence_c0 15
theorem d_Port_silence_22 : decode (jm_cod M_Port_silence) 22 = .ok (.getfield 25, 3) := dt_Port_silence_c0 16
theorem d_Port_silence_25 : decode (jm_cod M_Port_silence) 25 = .ok (.iload_n 1, 1) := dt_Port_silence_c0 17
theorem d_Port_silence_26 : decode (jm_cod M_Port_silence) 26 = .ok (.iconst 0, 1) := dt_Port_silence_c0 18
theorem d_Port_silence_27 : decode (jm_cod M_Port_silence) 27 = .ok (.iastore, 1) := dt_Port_silence_c0 19
theorem d_Port_silence_28 : decode (jm_cod M_Port_silence) 28 = .ok (.return_, 1) := dt_Port_silence_c0 20
def tab_Port_begin_c0 : List (Nat × Instr × Nat) := [(0, .iconst 0, 1), (1, .istore_n 1, 1), (2, .iload_n 1, 1), (3, .iconst 5, 1), (4, .if_icmp .ge 52, 3), (7, .aload_n 0, 1), (8, .getfield 18, 3), (11, .iload_n 1, 1), (12, .aload_n 0, 1), (13, .getfield 9, 3), (16, .iload_n 1, 1), (17, .baload, 1), (18, .ifCond .eq 16, 3), (21, .aload_n 0, 1), (22, .getfield 15, 3), (25, .iload_n 1, 1), (26, .baload, 1), (27, .ifCond .ne 7, 3), (30, .iconst 1, 1), (31, .goto 4, 3), (34, .iconst 0, 1), (35, .bastore, 1), (36, .aload_n 0, 1), (37, .getfield 18, 3)]
theorem dt_Port_begin_c0 (i : Nat) : decode (jm_cod M_Port_begin) (tab_Port_begin_c0.getD i (0, .iconst 0, 1)).1 = .ok ((tab_Port_begin_c0.getD i (0, .iconst 0, 1)).2.1, (tab_Port_begin_c0.getD i (0, .iconst 0, 1)).2.2) := j_tab (by decide +kernel) i
theorem d_Port_begin_0 : decode (jm_cod M_Port_begin) 0 = .ok (.iconst 0, 1) := dt_Port_begin_c0 0
theorem d_Port_begin_1 : decode (jm_cod M_Port_begin) 1 = .ok (.istore_n 1, 1) := dt_Port_begin_c0 1
theorem d_Port_begin_2 : decode (jm_cod M_Port_begin) 2 = .ok (.iload_n 1, 1) := dt_Port_begin_c0 2
theorem d_Port_begin_3 : decode (jm_cod M_Port_begin) 3 = .ok (.iconst 5, 1) := dt_Port_begin_c0 3
theorem d_Port_begin_4 : decode (jm_cod M_Port_begin) 4 = .ok (.if_icmp .ge 52, 3) := dt_Port_begin_c0 4
theorem d_Port_begin_7 : decode (jm_cod M_Port_begin) 7 = .ok (.aload_n 0, 1) := dt_Port_begin_c0 5
theorem d_Port_begin_8 : decode (jm_cod M_Port_begin) 8 = .ok (.getfield 18, 3) := dt_Port_begin_c0 6
theorem d_Port_begin_11 : decode (jm_cod M_Port_begin) 11 = .ok (.iload_n 1, 1) := dt_Port_begin_c0 7
theorem d_Port_begin_12 : decode (jm_cod M_Port_begin) 12 = .ok (.aload_n 0, 1) := dt_Port_begin_c0 8
theorem d_Port_begin_13 : decode (jm_cod M_Port_begin) 13 = .ok (.getfield 9, 3) := dt_Port_begin_c0 9
theorem d_Port_begin_16 : decode (jm_cod M_Port_begin) 16 = .ok (.iload_n 1, 1) := dt_Port_begin_c0 10
theorem d_Port_begin_17 : decode (jm_cod M_Port_begin) 17 = .ok (.baload, 1) := dt_Port_begin_c0 11
theorem d_Port_begin_18 : decode (jm_cod M_Port_begin) 18 = .ok (.ifCond .eq 16, 3) := dt_Port_begin_c0 12
theorem d_Port_begin_21 : decode (jm_cod M_Port_begin) 21 = .ok (.aload_n 0, 1) := dt_Port_begin_c0 13
theorem d_Port_begin_22 : decode (jm_cod M_Port_begin) 22 = .ok (.getfield 15, 3) := dt_Port_begin_c0 14
theorem d_Port_begin_25 : decode (jm_cod M_Port_begin) 25 = .ok (.iload_n 1, 1) := dt_Port_begin_c0 15
theorem d_Port_begin_26 : decode (jm_cod M_Port_begin) 26 = .ok (.baload, 1) := dt_Port_begin_c0 16
theorem d_Port_begin_27 : decode (jm_cod M_Port_begin) 27 = .ok (.ifCond .ne 7, 3) := dt_Port_begin_c0 17
theorem d_Port_begin_30 : decode (jm_cod M_Port_begin) 30 = .ok (.iconst 1, 1) := dt_Port_begin_c0 18
theorem d_Port_begin_31 : decode (jm_cod M_Port_begin) 31 = .ok (.goto 4, 3) := dt_Port_begin_c0 19
theorem d_Port_begin_34 : decode (jm_cod M_Port_begin) 34 = .ok (.iconst 0, 1) := dt_Port_begin_c0 20
theorem d_Port_begin_35 : decode (jm_cod M_Port_begin) 35 = .ok (.bastore, 1) := dt_Port_begin_c0 21
theorem d_Port_begin_36 : decode (jm_cod M_Port_begin) 36 = .ok (.aload_n 0, 1) := dt_Port_begin_c0 22
theorem d_Port_begin_37 : decode (jm_cod M_Port_begin) 37 = .ok (.getfield 18, 3) := dt_Port_begin_c0 23
def tab_Port_begin_c1 : List (Nat × Instr × Nat) := [(40, .iload_n 1, 1), (41, .baload, 1), (42, .ifCond .ne 8, 3), (45, .aload_n 0, 1), (46, .iload_n 1, 1), (47, .invokevirtual 45, 3), (50, .iinc 1 1, 3), (53, .goto (-51), 3), (56, .return_, 1)]
theorem dt_Port_begin_c1 (i : Nat) : decode (jm_cod M_Port_begin) (tab_Port_begin_c1.getD i (40, .iload_n 1, 1)).1 = .ok ((tab_Port_begin_c1.getD i (40, .iload_n 1, 1)).2.1, (tab_Port_begin_c1.getD i (40, .iload_n 1, 1)).2.2) := j_tab (by decide +kernel) i
theorem d_Port_begin_40 : decode (jm_cod M_Port_begin) 40 = .ok (.iload_n 1, 1) := dt_Port_begin_c1 0
theorem d_Port_begin_41 : decode (jm_cod M_Port_begin) 41 = .ok (.baload, 1) := dt_Port_begin_c1 1
theorem d_Port_begin_42 : decode (jm_cod M_Port_begin) 42 = .ok (.ifCond .ne 8, 3) := dt_Port_begin_c1 2
theorem d_Port_begin_45 : decode (jm_cod M_Port_begin) 45 = .ok (.aload_n 0, 1) := dt_Port_begin_c1 3
theorem d_Port_begin_46 : decode (jm_cod M_Port_begin) 46 = .ok (.iload_n 1, 1) := dt_Port_begin_c1 4
theorem d_Port_begin_47 : decode (jm_cod M_Port_begin) 47 = .ok (.invokevirtual 45, 3) := dt_Port_begin_c1 5
theorem d_Port_begin_50 : decode (jm_cod M_Port_begin) 50 = .ok (.iinc 1 1, 3) := dt_Port_begin_c1 6
theorem d_Port_begin_53 : decode (jm_cod M_Port_begin) 53 = .ok (.goto (-51), 3) := dt_Port_begin_c1 7
theorem d_Port_begin_56 : decode (jm_cod M_Port_begin) 56 = .ok (.return_, 1) := dt_Port_begin_c1 8
def tab_Port_send_c0 : List (Nat × Instr × Nat) := [(0, .aload_n 0, 1), (1, .getfield 9, 3), (4, .iload_n 1, 1), (5, .iconst 1, 1), (6, .bastore, 1), (7, .aload_n 0, 1), (8, .getfield 21, 3), (11, .iload_n 1, 1), (12, .lload_n 2, 1), (13, .lastore, 1), (14, .aload_n 0, 1), (15, .getfield 25, 3), (18, .iload_n 1, 1), (19, .iload 4, 2), (21, .iastore, 1), (22, .return_, 1)]
theorem dt_Port_send_c0 (i : Nat) : decode (jm_cod M_Port_send) (tab_Port_send_c0.getD i (0, .aload_n 0, 1)).1 = .ok ((tab_Port_send_c0.getD i (0, .aload_n 0, 1)).2.1, (tab_Port_send_c0.getD i (0, .aload_n 0, 1)).2.2) := j_tab (by decide +kernel) i
theorem d_Port_send_0 : decode (jm_cod M_Port_send) 0 = .ok (.aload_n 0, 1) := dt_Port_send_c0 0
theorem d_Port_send_1 : decode (jm_cod M_Port_send) 1 = .ok (.getfield 9, 3) := dt_Port_send_c0 1
theorem d_Port_send_4 : decode (jm_cod M_Port_send) 4 = .ok (.iload_n 1, 1) := dt_Port_send_c0 2
theorem d_Port_send_5 : decode (jm_cod M_Port_send) 5 = .ok (.iconst 1, 1) := dt_Port_send_c0 3
theorem d_Port_send_6 : decode (jm_cod M_Port_send) 6 = .ok (.bastore, 1) := dt_Port_send_c0 4
theorem d_Port_send_7 : decode (jm_cod M_Port_send) 7 = .ok (.aload_n 0, 1) := dt_Port_send_c0 5
theorem d_Port_send_8 : decode (jm_cod M_Port_send) 8 = .ok (.getfield 21, 3) := dt_Port_send_c0 6
theorem d_Port_send_11 : decode (jm_cod M_Port_send) 11 = .ok (.iload_n 1, 1) := dt_Port_send_c0 7
theorem d_Port_send_12 : decode (jm_cod M_Port_send) 12 = .ok (.lload_n 2, 1) := dt_Port_send_c0 8
theorem d_Port_send_13 : decode (jm_cod M_Port_send) 13 = .ok (.lastore, 1) := dt_Port_send_c0 9
theorem d_Port_send_14 : decode (jm_cod M_Port_send) 14 = .ok (.aload_n 0, 1) := dt_Port_send_c0 10
theorem d_Port_send_15 : decode (jm_cod M_Port_send) 15 = .ok (.getfield 25, 3) := dt_Port_send_c0 11
theorem d_Port_send_18 : decode (jm_cod M_Port_send) 18 = .ok (.iload_n 1, 1) := dt_Port_send_c0 12
theorem d_Port_send_19 : decode (jm_cod M_Port_send) 19 = .ok (.iload 4, 2) := dt_Port_send_c0 13
theorem d_Port_send_21 : decode (jm_cod M_Port_send) 21 = .ok (.iastore, 1) := dt_Port_send_c0 14
theorem d_Port_send_22 : decode (jm_cod M_Port_send) 22 = .ok (.return_, 1) := dt_Port_send_c0 15
def tab_Port_moves_c0 : List (Nat × Instr × Nat) := [(0, .aload_n 0, 1), (1, .getfield 9, 3), (4, .iload_n 1, 1), (5, .baload, 1), (6, .ifCond .eq 16, 3), (9, .aload_n 0, 1), (10, .getfield 15, 3), (13, .iload_n 1, 1), (14, .baload, 1), (15, .ifCond .eq 7, 3), (18, .iconst 1, 1), (19, .goto 4, 3), (22, .iconst 0, 1), (23, .ireturn, 1)]
theorem dt_Port_moves_c0 (i : Nat) : decode (jm_cod M_Port_moves) (tab_Port_moves_c0.getD i (0, .aload_n 0, 1)).1 = .ok ((tab_Port_moves_c0.getD i (0, .aload_n 0, 1)).2.1, (tab_Port_moves_c0.getD i (0, .aload_n 0, 1)).2.2) := j_tab (by decide +kernel) i
theorem d_Port_moves_0 : decode (jm_cod M_Port_moves) 0 = .ok (.aload_n 0, 1) := dt_Port_moves_c0 0
theorem d_Port_moves_1 : decode (jm_cod M_Port_moves) 1 = .ok (.getfield 9, 3) := dt_Port_moves_c0 1
theorem d_Port_moves_4 : decode (jm_cod M_Port_moves) 4 = .ok (.iload_n 1, 1) := dt_Port_moves_c0 2
theorem d_Port_moves_5 : decode (jm_cod M_Port_moves) 5 = .ok (.baload, 1) := dt_Port_moves_c0 3
theorem d_Port_moves_6 : decode (jm_cod M_Port_moves) 6 = .ok (.ifCond .eq 16, 3) := dt_Port_moves_c0 4
theorem d_Port_moves_9 : decode (jm_cod M_Port_moves) 9 = .ok (.aload_n 0, 1) := dt_Port_moves_c0 5
theorem d_Port_moves_10 : decode (jm_cod M_Port_moves) 10 = .ok (.getfield 15, 3) := dt_Port_moves_c0 6
theorem d_Port_moves_13 : decode (jm_cod M_Port_moves) 13 = .ok (.iload_n 1, 1) := dt_Port_moves_c0 7
theorem d_Port_moves_14 : decode (jm_cod M_Port_moves) 14 = .ok (.baload, 1) := dt_Port_moves_c0 8
theorem d_Port_moves_15 : decode (jm_cod M_Port_moves) 15 = .ok (.ifCond .eq 7, 3) := dt_Port_moves_c0 9
theorem d_Port_moves_18 : decode (jm_cod M_Port_moves) 18 = .ok (.iconst 1, 1) := dt_Port_moves_c0 10
theorem d_Port_moves_19 : decode (jm_cod M_Port_moves) 19 = .ok (.goto 4, 3) := dt_Port_moves_c0 11
theorem d_Port_moves_22 : decode (jm_cod M_Port_moves) 22 = .ok (.iconst 0, 1) := dt_Port_moves_c0 12
theorem d_Port_moves_23 : decode (jm_cod M_Port_moves) 23 = .ok (.ireturn, 1) := dt_Port_moves_c0 13
def tab_Port_count_c0 : List (Nat × Instr × Nat) := [(0, .aload_n 0, 1), (1, .getfield 29, 3), (4, .iload_n 1, 1), (5, .dup2, 1), (6, .iaload, 1), (7, .iconst 1, 1), (8, .iadd, 1), (9, .iastore, 1), (10, .iconst 1, 1), (11, .ireturn, 1)]
theorem dt_Port_count_c0 (i : Nat) : decode (jm_cod M_Port_count) (tab_Port_count_c0.getD i (0, .aload_n 0, 1)).1 = .ok ((tab_Port_count_c0.getD i (0, .aload_n 0, 1)).2.1, (tab_Port_count_c0.getD i (0, .aload_n 0, 1)).2.2) := j_tab (by decide +kernel) i
theorem d_Port_count_0 : decode (jm_cod M_Port_count) 0 = .ok (.aload_n 0, 1) := dt_Port_count_c0 0
theorem d_Port_count_1 : decode (jm_cod M_Port_count) 1 = .ok (.getfield 29, 3) := dt_Port_count_c0 1
theorem d_Port_count_4 : decode (jm_cod M_Port_count) 4 = .ok (.iload_n 1, 1) := dt_Port_count_c0 2
theorem d_Port_count_5 : decode (jm_cod M_Port_count) 5 = .ok (.dup2, 1) := dt_Port_count_c0 3
theorem d_Port_count_6 : decode (jm_cod M_Port_count) 6 = .ok (.iaload, 1) := dt_Port_count_c0 4
theorem d_Port_count_7 : decode (jm_cod M_Port_count) 7 = .ok (.iconst 1, 1) := dt_Port_count_c0 5
theorem d_Port_count_8 : decode (jm_cod M_Port_count) 8 = .ok (.iadd, 1) := dt_Port_count_c0 6
theorem d_Port_count_9 : decode (jm_cod M_Port_count) 9 = .ok (.iastore, 1) := dt_Port_count_c0 7
theorem d_Port_count_10 : decode (jm_cod M_Port_count) 10 = .ok (.iconst 1, 1) := dt_Port_count_c0 8
theorem d_Port_count_11 : decode (jm_cod M_Port_count) 11 = .ok (.ireturn, 1) := dt_Port_count_c0 9
