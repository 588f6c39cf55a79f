def tab_Ref_init : List (Nat × Instr × Nat) := [(0, .aload_n 0, 1), (1, .invokespecial 1, 3), (4, .aload_n 0, 1), (5, .bipush 16, 2), (7, .newarray .int, 2), (9, .putfield 7, 3), (12, .aload_n 0, 1), (13, .bipush 20, 2), (15, .newarray .int, 2), (17, .putfield 13, 3), (20, .aload_n 0, 1), (21, .bipush 20, 2), (23, .newarray .int, 2), (25, .putfield 16, 3), (28, .aload_n 0, 1), (29, .iconst 4, 1), (30, .newarray .boolean, 2), (32, .putfield 19, 3), (35, .aload_n 0, 1), (36, .iconst 4, 1), (37, .newarray .int, 2), (39, .putfield 23, 3), (42, .aload_n 0, 1), (43, .iconst 4, 1), (44, .newarray .int, 2), (46, .putfield 26, 3), (49, .aload_n 0, 1), (50, .ldc 29, 2), (52, .newarray .int, 2), (54, .putfield 30, 3), (57, .aload_n 0, 1), (58, .ldc 29, 2), (60, .newarray .boolean, 2), (62, .putfield 33, 3), (65, .aload_n 0, 1), (66, .bipush 64, 2), (68, .newarray .int, 2), (70, .putfield 36, 3), (73, .aload_n 0, 1), (74, .bipush 64, 2), (76, .newarray .int, 2), (78, .putfield 39, 3), (81, .aload_n 0, 1), (82, .bipush 64, 2), (84, .newarray .int, 2), (86, .putfield 42, 3), (89, .aload_n 0, 1), (90, .bipush 64, 2), (92, .newarray .int, 2), (94, .putfield 45, 3), (97, .aload_n 0, 1), (98, .bipush 64, 2), (100, .newarray .boolean, 2), (102, .putfield 48, 3), (105, .aload_n 0, 1), (106, .bipush 64, 2), (108, .newarray .boolean, 2), (110, .putfield 51, 3), (113, .aload_n 0, 1), (114, .bipush 64, 2), (116, .newarray .boolean, 2), (118, .putfield 54, 3), (121, .aload_n 0, 1), (122, .bipush 64, 2), (124, .newarray .int, 2), (126, .putfield 57, 3), (129, .aload_n 0, 1), (130, .bipush 64, 2), (132, .newarray .int, 2), (134, .putfield 60, 3), (137, .aload_n 0, 1), (138, .bipush 64, 2), (140, .newarray .int, 2), (142, .putfield 63, 3), (145, .aload_n 0, 1), (146, .bipush 64, 2), (148, .newarray .long, 2), (150, .putfield 66, 3), (153, .aload_n 0, 1), (154, .bipush 64, 2), (156, .newarray .int, 2), (158, .putfield 70, 3), (161, .aload_n 0, 1), (162, .bipush 64, 2), (164, .newarray .int, 2), (166, .putfield 73, 3), (169, .aload_n 0, 1), (170, .bipush 64, 2), (172, .newarray .int, 2), (174, .putfield 76, 3), (177, .aload_n 0, 1), (178, .bipush 64, 2), (180, .newarray .int, 2), (182, .putfield 79, 3), (185, .aload_n 0, 1), (186, .bipush 64, 2), (188, .newarray .int, 2), (190, .putfield 82, 3), (193, .aload_n 0, 1), (194, .sipush 1024, 3), (197, .newarray .long, 2), (199, .putfield 85, 3), (202, .aload_n 0, 1), (203, .bipush 40, 2), (205, .newarray .boolean, 2), (207, .putfield 88, 3), (210, .aload_n 0, 1), (211, .bipush 40, 2), (213, .newarray .boolean, 2), (215, .putfield 91, 3), (218, .aload_n 0, 1), (219, .bipush 40, 2), (221, .newarray .long, 2), (223, .putfield 94, 3), (226, .aload_n 0, 1), (227, .bipush 40, 2), (229, .newarray .int, 2), (231, .putfield 97, 3), (234, .aload_n 0, 1), (235, .bipush 40, 2), (237, .newarray .boolean, 2), (239, .putfield 100, 3), (242, .aload_n 0, 1), (243, .bipush 40, 2), (245, .newarray .int, 2), (247, .putfield 103, 3), (250, .aload_n 0, 1), (251, .sipush 180, 3), (254, .newarray .long, 2), (256, .putfield 106, 3), (259, .aload_n 0, 1), (260, .sipush 180, 3), (263, .newarray .int, 2), (265, .putfield 109, 3), (268, .aload_n 0, 1), (269, .sipush 180, 3), (272, .newarray .int, 2), (274, .putfield 112, 3), (277, .aload_n 0, 1), (278, .bipush 45, 2), (280, .newarray .int, 2), (282, .putfield 115, 3), (285, .aload_n 0, 1), (286, .bipush 40, 2), (288, .newarray .int, 2), (290, .putfield 118, 3), (293, .aload_n 0, 1), (294, .bipush 40, 2), (296, .newarray .int, 2), (298, .putfield 121, 3), (301, .aload_n 0, 1), (302, .bipush 40, 2), (304, .newarray .int, 2), (306, .putfield 124, 3), (309, .aload_n 0, 1), (310, .bipush 40, 2), (312, .newarray .int, 2), (314, .putfield 127, 3), (317, .aload_n 0, 1), (318, .bipush 40, 2), (320, .newarray .int, 2), (322, .putfield 130, 3), (325, .aload_n 0, 1), (326, .bipush 40, 2), (328, .newarray .int, 2), (330, .putfield 133, 3), (333, .aload_n 0, 1), (334, .bipush 40, 2), (336, .newarray .int, 2), (338, .putfield 136, 3), (341, .aload_n 0, 1), (342, .iconst 5, 1), (343, .newarray .int, 2), (345, .putfield 139, 3), (348, .aload_n 0, 1), (349, .iconst 5, 1), (350, .newarray .int, 2), (352, .putfield 142, 3), (355, .aload_n 0, 1), (356, .iconst 4, 1), (357, .newarray .int, 2), (359, .putfield 145, 3), (362, .aload_n 0, 1), (363, .iconst 4, 1), (364, .newarray .int, 2), (366, .putfield 148, 3), (369, .aload_n 0, 1), (370, .iconst 4, 1), (371, .newarray .boolean, 2), (373, .putfield 151, 3), (376, .aload_n 0, 1), (377, .iconst 4, 1), (378, .newarray .int, 2), (380, .putfield 154, 3), (383, .aload_n 0, 1), (384, .bipush 16, 2), (386, .newarray .int, 2), (388, .putfield 157, 3), (391, .aload_n 0, 1), (392, .bipush 16, 2), (394, .newarray .boolean, 2), (396, .putfield 160, 3), (399, .aload_n 0, 1), (400, .bipush 16, 2), (402, .newarray .long, 2), (404, .putfield 163, 3), (407, .aload_n 0, 1), (408, .bipush 16, 2), (410, .newarray .int, 2), (412, .putfield 166, 3), (415, .aload_n 0, 1), (416, .bipush 16, 2), (418, .newarray .int, 2), (420, .putfield 169, 3), (423, .aload_n 0, 1), (424, .bipush 16, 2), (426, .newarray .int, 2), (428, .putfield 172, 3), (431, .aload_n 0, 1), (432, .sipush 256, 3), (435, .newarray .long, 2), (437, .putfield 175, 3), (440, .aload_n 0, 1), (441, .sipush 256, 3), (444, .newarray .int, 2), (446, .putfield 178, 3), (449, .aload_n 0, 1), (450, .iconst 4, 1), (451, .newarray .int, 2), (453, .putfield 181, 3), (456, .aload_n 0, 1), (457, .bipush 16, 2), (459, .newarray .int, 2), (461, .putfield 184, 3), (464, .aload_n 0, 1), (465, .bipush 16, 2), (467, .newarray .boolean, 2), (469, .putfield 187, 3), (472, .aload_n 0, 1), (473, .bipush 16, 2), (475, .newarray .long, 2), (477, .putfield 190, 3), (480, .aload_n 0, 1), (481, .bipush 16, 2), (483, .newarray .int, 2), (485, .putfield 193, 3), (488, .aload_n 0, 1), (489, .bipush 16, 2), (491, .newarray .int, 2), (493, .putfield 196, 3), (496, .aload_n 0, 1), (497, .bipush 16, 2), (499, .newarray .int, 2), (501, .putfield 199, 3), (504, .aload_n 0, 1), (505, .sipush 256, 3), (508, .newarray .long, 2), (510, .putfield 202, 3), (513, .aload_n 0, 1), (514, .sipush 256, 3), (517, .newarray .int, 2), (519, .putfield 205, 3), (522, .aload_n 0, 1), (523, .iconst 4, 1), (524, .newarray .int, 2), (526, .putfield 208, 3), (529, .aload_n 0, 1), (530, .iconst 4, 1), (531, .newarray .int, 2), (533, .putfield 211, 3), (536, .aload_n 0, 1), (537, .iconst 4, 1), (538, .newarray .int, 2), (540, .putfield 214, 3), (543, .aload_n 0, 1), (544, .iconst 4, 1), (545, .newarray .int, 2), (547, .putfield 217, 3), (550, .aload_n 0, 1), (551, .sipush 256, 3), (554, .newarray .int, 2), (556, .putfield 220, 3), (559, .aload_n 0, 1), (560, .sipush 256, 3), (563, .newarray .int, 2), (565, .putfield 223, 3), (568, .aload_n 0, 1), (569, .bipush 50, 2), (571, .newarray .boolean, 2), (573, .putfield 226, 3), (576, .aload_n 0, 1), (577, .bipush 50, 2), (579, .newarray .long, 2), (581, .putfield 229, 3), (584, .aload_n 0, 1), (585, .bipush 50, 2), (587, .newarray .int, 2), (589, .putfield 232, 3), (592, .aload_n 0, 1), (593, .bipush 10, 2), (595, .newarray .int, 2), (597, .putfield 235, 3), (600, .aload_n 0, 1), (601, .bipush 10, 2), (603, .newarray .int, 2), (605, .putfield 238, 3), (608, .aload_n 0, 1), (609, .bipush 10, 2), (611, .newarray .int, 2), (613, .putfield 241, 3), (616, .aload_n 0, 1), (617, .bipush 10, 2), (619, .newarray .int, 2), (621, .putfield 244, 3), (624, .aload_n 0, 1), (625, .bipush 10, 2), (627, .newarray .int, 2), (629, .putfield 247, 3), (632, .aload_n 0, 1), (633, .bipush 10, 2), (635, .newarray .int, 2), (637, .putfield 250, 3), (640, .aload_n 0, 1), (641, .sipush 160, 3), (644, .newarray .boolean, 2), (646, .putfield 253, 3), (649, .aload_n 0, 1), (650, .sipush 160, 3), (653, .newarray .long, 2), (655, .putfield 256, 3), (658, .aload_n 0, 1), (659, .sipush 160, 3), (662, .newarray .int, 2), (664, .putfield 259, 3), (667, .aload_n 0, 1), (668, .sipush 160, 3), (671, .newarray .boolean, 2), (673, .putfield 262, 3), (676, .aload_n 0, 1), (677, .sipush 2560, 3), (680, .newarray .int, 2), (682, .putfield 265, 3), (685, .aload_n 0, 1), (686, .sipush 160, 3), (689, .newarray .long, 2), (691, .putfield 268, 3), (694, .aload_n 0, 1), (695, .sipush 160, 3), (698, .newarray .int, 2), (700, .putfield 271, 3), (703, .aload_n 0, 1), (704, .bipush 10, 2), (706, .newarray .boolean, 2), (708, .putfield 274, 3), (711, .aload_n 0, 1), (712, .bipush 10, 2), (714, .newarray .boolean, 2), (716, .putfield 277, 3), (719, .aload_n 0, 1), (720, .bipush 10, 2), (722, .newarray .long, 2), (724, .putfield 280, 3), (727, .aload_n 0, 1), (728, .bipush 10, 2), (730, .newarray .int, 2), (732, .putfield 283, 3), (735, .aload_n 0, 1), (736, .iload_n 1, 1), (737, .iconst 4, 1), (738, .invokestatic 286, 3), (741, .putfield 290, 3), (744, .aload_n 0, 1), (745, .iload_n 2, 1), (746, .iconst 4, 1), (747, .invokestatic 286, 3), (750, .putfield 294, 3), (753, .aload_n 0, 1), (754, .iload_n 3, 1), (755, .bipush 8, 2), (757, .invokestatic 286, 3), (760, .putfield 297, 3), (763, .aload_n 0, 1), (764, .invokevirtual 300, 3), (767, .return_, 1)]
theorem dt_Ref_init (i : Nat) : decode (jm_cod M_Ref_init) (tab_Ref_init.getD i (0, .aload_n 0, 1)).1 = .ok ((tab_Ref_init.getD i (0, .aload_n 0, 1)).2.1, (tab_Ref_init.getD i (0, .aload_n 0, 1)).2.2) := j_tab (by decide +kernel) i
theorem d_Ref_init_0 : decode (jm_cod M_Ref_init) 0 = .ok (.aload_n 0, 1) := dt_Ref_init 0
theorem d_Ref_init_1 : decode (jm_cod M_Ref_init) 1 = .ok (.invokespecial 1, 3) := dt_Ref_init 1
theorem d_Ref_init_4 : decode (jm_cod M_Ref_init) 4 = .ok (.aload_n 0, 1) := dt_Ref_init 2
theorem d_Ref_init_5 : decode (jm_cod M_Ref_init) 5 = .ok (.bipush 16, 2) := dt_Ref_init 3
theorem d_Ref_init_7 : decode (jm_cod M_Ref_init) 7 = .ok (.newarray .int, 2) := dt_Ref_init 4
theorem d_Ref_init_9 : decode (jm_cod M_Ref_init) 9 = .ok (.putfield 7, 3) := dt_Ref_init 5
theorem d_Ref_init_12 : decode (jm_cod M_Ref_init) 12 = .ok (.aload_n 0, 1) := dt_Ref_init 6
theorem d_Ref_init_13 : decode (jm_cod M_Ref_init) 13 = .ok (.bipush 20, 2) := dt_Ref_init 7
theorem d_Ref_init_15 : decode (jm_cod M_Ref_init) 15 = .ok (.newarray .int, 2) := dt_Ref_init 8
theorem d_Ref_init_17 : decode (jm_cod M_Ref_init) 17 = .ok (.putfield 13, 3) := dt_Ref_init 9
theorem d_Ref_init_20 : decode (jm_cod M_Ref_init) 20 = .ok (.aload_n 0, 1) := dt_Ref_init 10
theorem d_Ref_init_21 : decode (jm_cod M_Ref_init) 21 = .ok (.bipush 20, 2) := dt_Ref_init 11
theorem d_Ref_init_23 : decode (jm_cod M_Ref_init) 23 = .ok (.newarray .int, 2) := dt_Ref_init 12
theorem d_Ref_init_25 : decode (jm_cod M_Ref_init) 25 = .ok (.putfield 16, 3) := dt_Ref_init 13
theorem d_Ref_init_28 : decode (jm_cod M_Ref_init) 28 = .ok (.aload_n 0, 1) := dt_Ref_init 14
theorem d_Ref_init_29 : decode (jm_cod M_Ref_init) 29 = .ok (.iconst 4, 1) := dt_Ref_init 15
theorem d_Ref_init_30 : decode (jm_cod M_Ref_init) 30 = .ok (.newarray .boolean, 2) := dt_Ref_init 16
theorem d_Ref_init_32 : decode (jm_cod M_Ref_init) 32 = .ok (.putfield 19, 3) := dt_Ref_init 17
theorem d_Ref_init_35 : decode (jm_cod M_Ref_init) 35 = .ok (.aload_n 0, 1) := dt_Ref_init 18
theorem d_Ref_init_36 : decode (jm_cod M_Ref_init) 36 = .ok (.iconst 4, 1) := dt_Ref_init 19
theorem d_Ref_init_37 : decode (jm_cod M_Ref_init) 37 = .ok (.newarray .int, 2) := dt_Ref_init 20
theorem d_Ref_init_39 : decode (jm_cod M_Ref_init) 39 = .ok (.putfield 23, 3) := dt_Ref_init 21
theorem d_Ref_init_42 : decode (jm_cod M_Ref_init) 42 = .ok (.aload_n 0, 1) := dt_Ref_init 22
theorem d_Ref_init_43 : decode (jm_cod M_Ref_init) 43 = .ok (.iconst 4, 1) := dt_Ref_init 23
theorem d_Ref_init_44 : decode (jm_cod M_Ref_init) 44 = .ok (.newarray .int, 2) := dt_Ref_init 24
theorem d_Ref_init_46 : decode (jm_cod M_Ref_init) 46 = .ok (.putfield 26, 3) := dt_Ref_init 25
theorem d_Ref_init_49 : decode (jm_cod M_Ref_init) 49 = .ok (.aload_n 0, 1) := dt_Ref_init 26
theorem d_Ref_init_50 : decode (jm_cod M_Ref_init) 50 = .ok (.ldc 29, 2) := dt_Ref_init 27
theorem d_Ref_init_52 : decode (jm_cod M_Ref_init) 52 = .ok (.newarray .int, 2) := dt_Ref_init 28
theorem d_Ref_init_54 : decode (jm_cod M_Ref_init) 54 = .ok (.putfield 30, 3) := dt_Ref_init 29
theorem d_Ref_init_57 : decode (jm_cod M_Ref_init) 57 = .ok (.aload_n 0, 1) := dt_Ref_init 30
theorem d_Ref_init_58 : decode (jm_cod M_Ref_init) 58 = .ok (.ldc 29, 2) := dt_Ref_init 31
theorem d_Ref_init_60 : decode (jm_cod M_Ref_init) 60 = .ok (.newarray .boolean, 2) := dt_Ref_init 32
theorem d_Ref_init_62 : decode (jm_cod M_Ref_init) 62 = .ok (.putfield 33, 3) := dt_Ref_init 33
theorem d_Ref_init_65 : decode (jm_cod M_Ref_init) 65 = .ok (.aload_n 0, 1) := dt_Ref_init 34
theorem d_Ref_init_66 : decode (jm_cod M_Ref_init) 66 = .ok (.bipush 64, 2) := dt_Ref_init 35
theorem d_Ref_init_68 : decode (jm_cod M_Ref_init) 68 = .ok (.newarray .int, 2) := dt_Ref_init 36
theorem d_Ref_init_70 : decode (jm_cod M_Ref_init) 70 = .ok (.putfield 36, 3) := dt_Ref_init 37
theorem d_Ref_init_73 : decode (jm_cod M_Ref_init) 73 = .ok (.aload_n 0, 1) := dt_Ref_init 38
theorem d_Ref_init_74 : decode (jm_cod M_Ref_init) 74 = .ok (.bipush 64, 2) := dt_Ref_init 39
theorem d_Ref_init_76 : decode (jm_cod M_Ref_init) 76 = .ok (.newarray .int, 2) := dt_Ref_init 40
theorem d_Ref_init_78 : decode (jm_cod M_Ref_init) 78 = .ok (.putfield 39, 3) := dt_Ref_init 41
theorem d_Ref_init_81 : decode (jm_cod M_Ref_init) 81 = .ok (.aload_n 0, 1) := dt_Ref_init 42
theorem d_Ref_init_82 : decode (jm_cod M_Ref_init) 82 = .ok (.bipush 64, 2) := dt_Ref_init 43
theorem d_Ref_init_84 : decode (jm_cod M_Ref_init) 84 = .ok (.newarray .int, 2) := dt_Ref_init 44
theorem d_Ref_init_86 : decode (jm_cod M_Ref_init) 86 = .ok (.putfield 42, 3) := dt_Ref_init 45
theorem d_Ref_init_89 : decode (jm_cod M_Ref_init) 89 = .ok (.aload_n 0, 1) := dt_Ref_init 46
theorem d_Ref_init_90 : decode (jm_cod M_Ref_init) 90 = .ok (.bipush 64, 2) := dt_Ref_init 47
theorem d_Ref_init_92 : decode (jm_cod M_Ref_init) 92 = .ok (.newarray .int, 2) := dt_Ref_init 48
theorem d_Ref_init_94 : decode (jm_cod M_Ref_init) 94 = .ok (.putfield 45, 3) := dt_Ref_init 49
theorem d_Ref_init_97 : decode (jm_cod M_Ref_init) 97 = .ok (.aload_n 0, 1) := dt_Ref_init 50
theorem d_Ref_init_98 : decode (jm_cod M_Ref_init) 98 = .ok (.bipush 64, 2) := dt_Ref_init 51
theorem d_Ref_init_100 : decode (jm_cod M_Ref_init) 100 = .ok (.newarray .boolean, 2) := dt_Ref_init 52
theorem d_Ref_init_102 : decode (jm_cod M_Ref_init) 102 = .ok (.putfield 48, 3) := dt_Ref_init 53
theorem d_Ref_init_105 : decode (jm_cod M_Ref_init) 105 = .ok (.aload_n 0, 1) := dt_Ref_init 54
theorem d_Ref_init_106 : decode (jm_cod M_Ref_init) 106 = .ok (.bipush 64, 2) := dt_Ref_init 55
theorem d_Ref_init_108 : decode (jm_cod M_Ref_init) 108 = .ok (.newarray .boolean, 2) := dt_Ref_init 56
theorem d_Ref_init_110 : decode (jm_cod M_Ref_init) 110 = .ok (.putfield 51, 3) := dt_Ref_init 57
theorem d_Ref_init_113 : decode (jm_cod M_Ref_init) 113 = .ok (.aload_n 0, 1) := dt_Ref_init 58
theorem d_Ref_init_114 : decode (jm_cod M_Ref_init) 114 = .ok (.bipush 64, 2) := dt_Ref_init 59
theorem d_Ref_init_116 : decode (jm_cod M_Ref_init) 116 = .ok (.newarray .boolean, 2) := dt_Ref_init 60
theorem d_Ref_init_118 : decode (jm_cod M_Ref_init) 118 = .ok (.putfield 54, 3) := dt_Ref_init 61
theorem d_Ref_init_121 : decode (jm_cod M_Ref_init) 121 = .ok (.aload_n 0, 1) := dt_Ref_init 62
theorem d_Ref_init_122 : decode (jm_cod M_Ref_init) 122 = .ok (.bipush 64, 2) := dt_Ref_init 63
theorem d_Ref_init_124 : decode (jm_cod M_Ref_init) 124 = .ok (.newarray .int, 2) := dt_Ref_init 64
theorem d_Ref_init_126 : decode (jm_cod M_Ref_init) 126 = .ok (.putfield 57, 3) := dt_Ref_init 65
theorem d_Ref_init_129 : decode (jm_cod M_Ref_init) 129 = .ok (.aload_n 0, 1) := dt_Ref_init 66
theorem d_Ref_init_130 : decode (jm_cod M_Ref_init) 130 = .ok (.bipush 64, 2) := dt_Ref_init 67
theorem d_Ref_init_132 : decode (jm_cod M_Ref_init) 132 = .ok (.newarray .int, 2) := dt_Ref_init 68
theorem d_Ref_init_134 : decode (jm_cod M_Ref_init) 134 = .ok (.putfield 60, 3) := dt_Ref_init 69
theorem d_Ref_init_137 : decode (jm_cod M_Ref_init) 137 = .ok (.aload_n 0, 1) := dt_Ref_init 70
theorem d_Ref_init_138 : decode (jm_cod M_Ref_init) 138 = .ok (.bipush 64, 2) := dt_Ref_init 71
theorem d_Ref_init_140 : decode (jm_cod M_Ref_init) 140 = .ok (.newarray .int, 2) := dt_Ref_init 72
theorem d_Ref_init_142 : decode (jm_cod M_Ref_init) 142 = .ok (.putfield 63, 3) := dt_Ref_init 73
theorem d_Ref_init_145 : decode (jm_cod M_Ref_init) 145 = .ok (.aload_n 0, 1) := dt_Ref_init 74
theorem d_Ref_init_146 : decode (jm_cod M_Ref_init) 146 = .ok (.bipush 64, 2) := dt_Ref_init 75
theorem d_Ref_init_148 : decode (jm_cod M_Ref_init) 148 = .ok (.newarray .long, 2) := dt_Ref_init 76
theorem d_Ref_init_150 : decode (jm_cod M_Ref_init) 150 = .ok (.putfield 66, 3) := dt_Ref_init 77
theorem d_Ref_init_153 : decode (jm_cod M_Ref_init) 153 = .ok (.aload_n 0, 1) := dt_Ref_init 78
theorem d_Ref_init_154 : decode (jm_cod M_Ref_init) 154 = .ok (.bipush 64, 2) := dt_Ref_init 79
theorem d_Ref_init_156 : decode (jm_cod M_Ref_init) 156 = .ok (.newarray .int, 2) := dt_Ref_init 80
theorem d_Ref_init_158 : decode (jm_cod M_Ref_init) 158 = .ok (.putfield 70, 3) := dt_Ref_init 81
theorem d_Ref_init_161 : decode (jm_cod M_Ref_init) 161 = .ok (.aload_n 0, 1) := dt_Ref_init 82
theorem d_Ref_init_162 : decode (jm_cod M_Ref_init) 162 = .ok (.bipush 64, 2) := dt_Ref_init 83
theorem d_Ref_init_164 : decode (jm_cod M_Ref_init) 164 = .ok (.newarray .int, 2) := dt_Ref_init 84
theorem d_Ref_init_166 : decode (jm_cod M_Ref_init) 166 = .ok (.putfield 73, 3) := dt_Ref_init 85
theorem d_Ref_init_169 : decode (jm_cod M_Ref_init) 169 = .ok (.aload_n 0, 1) := dt_Ref_init 86
theorem d_Ref_init_170 : decode (jm_cod M_Ref_init) 170 = .ok (.bipush 64, 2) := dt_Ref_init 87
theorem d_Ref_init_172 : decode (jm_cod M_Ref_init) 172 = .ok (.newarray .int, 2) := dt_Ref_init 88
theorem d_Ref_init_174 : decode (jm_cod M_Ref_init) 174 = .ok (.putfield 76, 3) := dt_Ref_init 89
theorem d_Ref_init_177 : decode (jm_cod M_Ref_init) 177 = .ok (.aload_n 0, 1) := dt_Ref_init 90
theorem d_Ref_init_178 : decode (jm_cod M_Ref_init) 178 = .ok (.bipush 64, 2) := dt_Ref_init 91
theorem d_Ref_init_180 : decode (jm_cod M_Ref_init) 180 = .ok (.newarray .int, 2) := dt_Ref_init 92
theorem d_Ref_init_182 : decode (jm_cod M_Ref_init) 182 = .ok (.putfield 79, 3) := dt_Ref_init 93
theorem d_Ref_init_185 : decode (jm_cod M_Ref_init) 185 = .ok (.aload_n 0, 1) := dt_Ref_init 94
theorem d_Ref_init_186 : decode (jm_cod M_Ref_init) 186 = .ok (.bipush 64, 2) := dt_Ref_init 95
theorem d_Ref_init_188 : decode (jm_cod M_Ref_init) 188 = .ok (.newarray .int, 2) := dt_Ref_init 96
theorem d_Ref_init_190 : decode (jm_cod M_Ref_init) 190 = .ok (.putfield 82, 3) := dt_Ref_init 97
theorem d_Ref_init_193 : decode (jm_cod M_Ref_init) 193 = .ok (.aload_n 0, 1) := dt_Ref_init 98
theorem d_Ref_init_194 : decode (jm_cod M_Ref_init) 194 = .ok (.sipush 1024, 3) := dt_Ref_init 99
theorem d_Ref_init_197 : decode (jm_cod M_Ref_init) 197 = .ok (.newarray .long, 2) := dt_Ref_init 100
theorem d_Ref_init_199 : decode (jm_cod M_Ref_init) 199 = .ok (.putfield 85, 3) := dt_Ref_init 101
theorem d_Ref_init_202 : decode (jm_cod M_Ref_init) 202 = .ok (.aload_n 0, 1) := dt_Ref_init 102
theorem d_Ref_init_203 : decode (jm_cod M_Ref_init) 203 = .ok (.bipush 40, 2) := dt_Ref_init 103
theorem d_Ref_init_205 : decode (jm_cod M_Ref_init) 205 = .ok (.newarray .boolean, 2) := dt_Ref_init 104
theorem d_Ref_init_207 : decode (jm_cod M_Ref_init) 207 = .ok (.putfield 88, 3) := dt_Ref_init 105
theorem d_Ref_init_210 : decode (jm_cod M_Ref_init) 210 = .ok (.aload_n 0, 1) := dt_Ref_init 106
theorem d_Ref_init_211 : decode (jm_cod M_Ref_init) 211 = .ok (.bipush 40, 2) := dt_Ref_init 107
theorem d_Ref_init_213 : decode (jm_cod M_Ref_init) 213 = .ok (.newarray .boolean, 2) := dt_Ref_init 108
theorem d_Ref_init_215 : decode (jm_cod M_Ref_init) 215 = .ok (.putfield 91, 3) := dt_Ref_init 109
theorem d_Ref_init_218 : decode (jm_cod M_Ref_init) 218 = .ok (.aload_n 0, 1) := dt_Ref_init 110
theorem d_Ref_init_219 : decode (jm_cod M_Ref_init) 219 = .ok (.bipush 40, 2) := dt_Ref_init 111
theorem d_Ref_init_221 : decode (jm_cod M_Ref_init) 221 = .ok (.newarray .long, 2) := dt_Ref_init 112
theorem d_Ref_init_223 : decode (jm_cod M_Ref_init) 223 = .ok (.putfield 94, 3) := dt_Ref_init 113
theorem d_Ref_init_226 : decode (jm_cod M_Ref_init) 226 = .ok (.aload_n 0, 1) := dt_Ref_init 114
theorem d_Ref_init_227 : decode (jm_cod M_Ref_init) 227 = .ok (.bipush 40, 2) := dt_Ref_init 115
theorem d_Ref_init_229 : decode (jm_cod M_Ref_init) 229 = .ok (.newarray .int, 2) := dt_Ref_init 116
theorem d_Ref_init_231 : decode (jm_cod M_Ref_init) 231 = .ok (.putfield 97, 3) := dt_Ref_init 117
theorem d_Ref_init_234 : decode (jm_cod M_Ref_init) 234 = .ok (.aload_n 0, 1) := dt_Ref_init 118
theorem d_Ref_init_235 : decode (jm_cod M_Ref_init) 235 = .ok (.bipush 40, 2) := dt_Ref_init 119
theorem d_Ref_init_237 : decode (jm_cod M_Ref_init) 237 = .ok (.newarray .boolean, 2) := dt_Ref_init 120
theorem d_Ref_init_239 : decode (jm_cod M_Ref_init) 239 = .ok (.putfield 100, 3) := dt_Ref_init 121
theorem d_Ref_init_242 : decode (jm_cod M_Ref_init) 242 = .ok (.aload_n 0, 1) := dt_Ref_init 122
theorem d_Ref_init_243 : decode (jm_cod M_Ref_init) 243 = .ok (.bipush 40, 2) := dt_Ref_init 123
theorem d_Ref_init_245 : decode (jm_cod M_Ref_init) 245 = .ok (.newarray .int, 2) := dt_Ref_init 124
theorem d_Ref_init_247 : decode (jm_cod M_Ref_init) 247 = .ok (.putfield 103, 3) := dt_Ref_init 125
theorem d_Ref_init_250 : decode (jm_cod M_Ref_init) 250 = .ok (.aload_n 0, 1) := dt_Ref_init 126
theorem d_Ref_init_251 : decode (jm_cod M_Ref_init) 251 = .ok (.sipush 180, 3) := dt_Ref_init 127
theorem d_Ref_init_254 : decode (jm_cod M_Ref_init) 254 = .ok (.newarray .long, 2) := dt_Ref_init 128
theorem d_Ref_init_256 : decode (jm_cod M_Ref_init) 256 = .ok (.putfield 106, 3) := dt_Ref_init 129
theorem d_Ref_init_259 : decode (jm_cod M_Ref_init) 259 = .ok (.aload_n 0, 1) := dt_Ref_init 130
theorem d_Ref_init_260 : decode (jm_cod M_Ref_init) 260 = .ok (.sipush 180, 3) := dt_Ref_init 131
theorem d_Ref_init_263 : decode (jm_cod M_Ref_init) 263 = .ok (.newarray .int, 2) := dt_Ref_init 132
theorem d_Ref_init_265 : decode (jm_cod M_Ref_init) 265 = .ok (.putfield 109, 3) := dt_Ref_init 133
theorem d_Ref_init_268 : decode (jm_cod M_Ref_init) 268 = .ok (.aload_n 0, 1) := dt_Ref_init 134
theorem d_Ref_init_269 : decode (jm_cod M_Ref_init) 269 = .ok (.sipush 180, 3) := dt_Ref_init 135
theorem d_Ref_init_272 : decode (jm_cod M_Ref_init) 272 = .ok (.newarray .int, 2) := dt_Ref_init 136
theorem d_Ref_init_274 : decode (jm_cod M_Ref_init) 274 = .ok (.putfield 112, 3) := dt_Ref_init 137
theorem d_Ref_init_277 : decode (jm_cod M_Ref_init) 277 = .ok (.aload_n 0, 1) := dt_Ref_init 138
theorem d_Ref_init_278 : decode (jm_cod M_Ref_init) 278 = .ok (.bipush 45, 2) := dt_Ref_init 139
theorem d_Ref_init_280 : decode (jm_cod M_Ref_init) 280 = .ok (.newarray .int, 2) := dt_Ref_init 140
theorem d_Ref_init_282 : decode (jm_cod M_Ref_init) 282 = .ok (.putfield 115, 3) := dt_Ref_init 141
theorem d_Ref_init_285 : decode (jm_cod M_Ref_init) 285 = .ok (.aload_n 0, 1) := dt_Ref_init 142
theorem d_Ref_init_286 : decode (jm_cod M_Ref_init) 286 = .ok (.bipush 40, 2) := dt_Ref_init 143
theorem d_Ref_init_288 : decode (jm_cod M_Ref_init) 288 = .ok (.newarray .int, 2) := dt_Ref_init 144
theorem d_Ref_init_290 : decode (jm_cod M_Ref_init) 290 = .ok (.putfield 118, 3) := dt_Ref_init 145
theorem d_Ref_init_293 : decode (jm_cod M_Ref_init) 293 = .ok (.aload_n 0, 1) := dt_Ref_init 146
theorem d_Ref_init_294 : decode (jm_cod M_Ref_init) 294 = .ok (.bipush 40, 2) := dt_Ref_init 147
theorem d_Ref_init_296 : decode (jm_cod M_Ref_init) 296 = .ok (.newarray .int, 2) := dt_Ref_init 148
theorem d_Ref_init_298 : decode (jm_cod M_Ref_init) 298 = .ok (.putfield 121, 3) := dt_Ref_init 149
theorem d_Ref_init_301 : decode (jm_cod M_Ref_init) 301 = .ok (.aload_n 0, 1) := dt_Ref_init 150
theorem d_Ref_init_302 : decode (jm_cod M_Ref_init) 302 = .ok (.bipush 40, 2) := dt_Ref_init 151
theorem d_Ref_init_304 : decode (jm_cod M_Ref_init) 304 = .ok (.newarray .int, 2) := dt_Ref_init 152
theorem d_Ref_init_306 : decode (jm_cod M_Ref_init) 306 = .ok (.putfield 124, 3) := dt_Ref_init 153
theorem d_Ref_init_309 : decode (jm_cod M_Ref_init) 309 = .ok (.aload_n 0, 1) := dt_Ref_init 154
theorem d_Ref_init_310 : decode (jm_cod M_Ref_init) 310 = .ok (.bipush 40, 2) := dt_Ref_init 155
theorem d_Ref_init_312 : decode (jm_cod M_Ref_init) 312 = .ok (.newarray .int, 2) := dt_Ref_init 156
theorem d_Ref_init_314 : decode (jm_cod M_Ref_init) 314 = .ok (.putfield 127, 3) := dt_Ref_init 157
theorem d_Ref_init_317 : decode (jm_cod M_Ref_init) 317 = .ok (.aload_n 0, 1) := dt_Ref_init 158
theorem d_Ref_init_318 : decode (jm_cod M_Ref_init) 318 = .ok (.bipush 40, 2) := dt_Ref_init 159
theorem d_Ref_init_320 : decode (jm_cod M_Ref_init) 320 = .ok (.newarray .int, 2) := dt_Ref_init 160
theorem d_Ref_init_322 : decode (jm_cod M_Ref_init) 322 = .ok (.putfield 130, 3) := dt_Ref_init 161
theorem d_Ref_init_325 : decode (jm_cod M_Ref_init) 325 = .ok (.aload_n 0, 1) := dt_Ref_init 162
theorem d_Ref_init_326 : decode (jm_cod M_Ref_init) 326 = .ok (.bipush 40, 2) := dt_Ref_init 163
theorem d_Ref_init_328 : decode (jm_cod M_Ref_init) 328 = .ok (.newarray .int, 2) := dt_Ref_init 164
theorem d_Ref_init_330 : decode (jm_cod M_Ref_init) 330 = .ok (.putfield 133, 3) := dt_Ref_init 165
theorem d_Ref_init_333 : decode (jm_cod M_Ref_init) 333 = .ok (.aload_n 0, 1) := dt_Ref_init 166
theorem d_Ref_init_334 : decode (jm_cod M_Ref_init) 334 = .ok (.bipush 40, 2) := dt_Ref_init 167
theorem d_Ref_init_336 : decode (jm_cod M_Ref_init) 336 = .ok (.newarray .int, 2) := dt_Ref_init 168
theorem d_Ref_init_338 : decode (jm_cod M_Ref_init) 338 = .ok (.putfield 136, 3) := dt_Ref_init 169
theorem d_Ref_init_341 : decode (jm_cod M_Ref_init) 341 = .ok (.aload_n 0, 1) := dt_Ref_init 170
theorem d_Ref_init_342 : decode (jm_cod M_Ref_init) 342 = .ok (.iconst 5, 1) := dt_Ref_init 171
theorem d_Ref_init_343 : decode (jm_cod M_Ref_init) 343 = .ok (.newarray .int, 2) := dt_Ref_init 172
theorem d_Ref_init_345 : decode (jm_cod M_Ref_init) 345 = .ok (.putfield 139, 3) := dt_Ref_init 173
theorem d_Ref_init_348 : decode (jm_cod M_Ref_init) 348 = .ok (.aload_n 0, 1) := dt_Ref_init 174
theorem d_Ref_init_349 : decode (jm_cod M_Ref_init) 349 = .ok (.iconst 5, 1) := dt_Ref_init 175
theorem d_Ref_init_350 : decode (jm_cod M_Ref_init) 350 = .ok (.newarray .int, 2) := dt_Ref_init 176
theorem d_Ref_init_352 : decode (jm_cod M_Ref_init) 352 = .ok (.putfield 142, 3) := dt_Ref_init 177
theorem d_Ref_init_355 : decode (jm_cod M_Ref_init) 355 = .ok (.aload_n 0, 1) := dt_Ref_init 178
theorem d_Ref_init_356 : decode (jm_cod M_Ref_init) 356 = .ok (.iconst 4, 1) := dt_Ref_init 179
theorem d_Ref_init_357 : decode (jm_cod M_Ref_init) 357 = .ok (.newarray .int, 2) := dt_Ref_init 180
theorem d_Ref_init_359 : decode (jm_cod M_Ref_init) 359 = .ok (.putfield 145, 3) := dt_Ref_init 181
theorem d_Ref_init_362 : decode (jm_cod M_Ref_init) 362 = .ok (.aload_n 0, 1) := dt_Ref_init 182
theorem d_Ref_init_363 : decode (jm_cod M_Ref_init) 363 = .ok (.iconst 4, 1) := dt_Ref_init 183
theorem d_Ref_init_364 : decode (jm_cod M_Ref_init) 364 = .ok (.newarray .int, 2) := dt_Ref_init 184
theorem d_Ref_init_366 : decode (jm_cod M_Ref_init) 366 = .ok (.putfield 148, 3) := dt_Ref_init 185
theorem d_Ref_init_369 : decode (jm_cod M_Ref_init) 369 = .ok (.aload_n 0, 1) := dt_Ref_init 186
theorem d_Ref_init_370 : decode (jm_cod M_Ref_init) 370 = .ok (.iconst 4, 1) := dt_Ref_init 187
theorem d_Ref_init_371 : decode (jm_cod M_Ref_init) 371 = .ok (.newarray .boolean, 2) := dt_Ref_init 188
theorem d_Ref_init_373 : decode (jm_cod M_Ref_init) 373 = .ok (.putfield 151, 3) := dt_Ref_init 189
theorem d_Ref_init_376 : decode (jm_cod M_Ref_init) 376 = .ok (.aload_n 0, 1) := dt_Ref_init 190
theorem d_Ref_init_377 : decode (jm_cod M_Ref_init) 377 = .ok (.iconst 4, 1) := dt_Ref_init 191
theorem d_Ref_init_378 : decode (jm_cod M_Ref_init) 378 = .ok (.newarray .int, 2) := dt_Ref_init 192
theorem d_Ref_init_380 : decode (jm_cod M_Ref_init) 380 = .ok (.putfield 154, 3) := dt_Ref_init 193
theorem d_Ref_init_383 : decode (jm_cod M_Ref_init) 383 = .ok (.aload_n 0, 1) := dt_Ref_init 194
theorem d_Ref_init_384 : decode (jm_cod M_Ref_init) 384 = .ok (.bipush 16, 2) := dt_Ref_init 195
theorem d_Ref_init_386 : decode (jm_cod M_Ref_init) 386 = .ok (.newarray .int, 2) := dt_Ref_init 196
theorem d_Ref_init_388 : decode (jm_cod M_Ref_init) 388 = .ok (.putfield 157, 3) := dt_Ref_init 197
theorem d_Ref_init_391 : decode (jm_cod M_Ref_init) 391 = .ok (.aload_n 0, 1) := dt_Ref_init 198
theorem d_Ref_init_392 : decode (jm_cod M_Ref_init) 392 = .ok (.bipush 16, 2) := dt_Ref_init 199
theorem d_Ref_init_394 : decode (jm_cod M_Ref_init) 394 = .ok (.newarray .boolean, 2) := dt_Ref_init 200
theorem d_Ref_init_396 : decode (jm_cod M_Ref_init) 396 = .ok (.putfield 160, 3) := dt_Ref_init 201
theorem d_Ref_init_399 : decode (jm_cod M_Ref_init) 399 = .ok (.aload_n 0, 1) := dt_Ref_init 202
theorem d_Ref_init_400 : decode (jm_cod M_Ref_init) 400 = .ok (.bipush 16, 2) := dt_Ref_init 203
theorem d_Ref_init_402 : decode (jm_cod M_Ref_init) 402 = .ok (.newarray .long, 2) := dt_Ref_init 204
theorem d_Ref_init_404 : decode (jm_cod M_Ref_init) 404 = .ok (.putfield 163, 3) := dt_Ref_init 205
theorem d_Ref_init_407 : decode (jm_cod M_Ref_init) 407 = .ok (.aload_n 0, 1) := dt_Ref_init 206
theorem d_Ref_init_408 : decode (jm_cod M_Ref_init) 408 = .ok (.bipush 16, 2) := dt_Ref_init 207
theorem d_Ref_init_410 : decode (jm_cod M_Ref_init) 410 = .ok (.newarray .int, 2) := dt_Ref_init 208
theorem d_Ref_init_412 : decode (jm_cod M_Ref_init) 412 = .ok (.putfield 166, 3) := dt_Ref_init 209
theorem d_Ref_init_415 : decode (jm_cod M_Ref_init) 415 = .ok (.aload_n 0, 1) := dt_Ref_init 210
theorem d_Ref_init_416 : decode (jm_cod M_Ref_init) 416 = .ok (.bipush 16, 2) := dt_Ref_init 211
theorem d_Ref_init_418 : decode (jm_cod M_Ref_init) 418 = .ok (.newarray .int, 2) := dt_Ref_init 212
theorem d_Ref_init_420 : decode (jm_cod M_Ref_init) 420 = .ok (.putfield 169, 3) := dt_Ref_init 213
theorem d_Ref_init_423 : decode (jm_cod M_Ref_init) 423 = .ok (.aload_n 0, 1) := dt_Ref_init 214
theorem d_Ref_init_424 : decode (jm_cod M_Ref_init) 424 = .ok (.bipush 16, 2) := dt_Ref_init 215
theorem d_Ref_init_426 : decode (jm_cod M_Ref_init) 426 = .ok (.newarray .int, 2) := dt_Ref_init 216
theorem d_Ref_init_428 : decode (jm_cod M_Ref_init) 428 = .ok (.putfield 172, 3) := dt_Ref_init 217
theorem d_Ref_init_431 : decode (jm_cod M_Ref_init) 431 = .ok (.aload_n 0, 1) := dt_Ref_init 218
theorem d_Ref_init_432 : decode (jm_cod M_Ref_init) 432 = .ok (.sipush 256, 3) := dt_Ref_init 219
theorem d_Ref_init_435 : decode (jm_cod M_Ref_init) 435 = .ok (.newarray .long, 2) := dt_Ref_init 220
theorem d_Ref_init_437 : decode (jm_cod M_Ref_init) 437 = .ok (.putfield 175, 3) := dt_Ref_init 221
theorem d_Ref_init_440 : decode (jm_cod M_Ref_init) 440 = .ok (.aload_n 0, 1) := dt_Ref_init 222
theorem d_Ref_init_441 : decode (jm_cod M_Ref_init) 441 = .ok (.sipush 256, 3) := dt_Ref_init 223
theorem d_Ref_init_444 : decode (jm_cod M_Ref_init) 444 = .ok (.newarray .int, 2) := dt_Ref_init 224
theorem d_Ref_init_446 : decode (jm_cod M_Ref_init) 446 = .ok (.putfield 178, 3) := dt_Ref_init 225
theorem d_Ref_init_449 : decode (jm_cod M_Ref_init) 449 = .ok (.aload_n 0, 1) := dt_Ref_init 226
theorem d_Ref_init_450 : decode (jm_cod M_Ref_init) 450 = .ok (.iconst 4, 1) := dt_Ref_init 227
theorem d_Ref_init_451 : decode (jm_cod M_Ref_init) 451 = .ok (.newarray .int, 2) := dt_Ref_init 228
theorem d_Ref_init_453 : decode (jm_cod M_Ref_init) 453 = .ok (.putfield 181, 3) := dt_Ref_init 229
theorem d_Ref_init_456 : decode (jm_cod M_Ref_init) 456 = .ok (.aload_n 0, 1) := dt_Ref_init 230
theorem d_Ref_init_457 : decode (jm_cod M_Ref_init) 457 = .ok (.bipush 16, 2) := dt_Ref_init 231
theorem d_Ref_init_459 : decode (jm_cod M_Ref_init) 459 = .ok (.newarray .int, 2) := dt_Ref_init 232
theorem d_Ref_init_461 : decode (jm_cod M_Ref_init) 461 = .ok (.putfield 184, 3) := dt_Ref_init 233
theorem d_Ref_init_464 : decode (jm_cod M_Ref_init) 464 = .ok (.aload_n 0, 1) := dt_Ref_init 234
theorem d_Ref_init_465 : decode (jm_cod M_Ref_init) 465 = .ok (.bipush 16, 2) := dt_Ref_init 235
theorem d_Ref_init_467 : decode (jm_cod M_Ref_init) 467 = .ok (.newarray .boolean, 2) := dt_Ref_init 236
theorem d_Ref_init_469 : decode (jm_cod M_Ref_init) 469 = .ok (.putfield 187, 3) := dt_Ref_init 237
theorem d_Ref_init_472 : decode (jm_cod M_Ref_init) 472 = .ok (.aload_n 0, 1) := dt_Ref_init 238
theorem d_Ref_init_473 : decode (jm_cod M_Ref_init) 473 = .ok (.bipush 16, 2) := dt_Ref_init 239
theorem d_Ref_init_475 : decode (jm_cod M_Ref_init) 475 = .ok (.newarray .long, 2) := dt_Ref_init 240
theorem d_Ref_init_477 : decode (jm_cod M_Ref_init) 477 = .ok (.putfield 190, 3) := dt_Ref_init 241
theorem d_Ref_init_480 : decode (jm_cod M_Ref_init) 480 = .ok (.aload_n 0, 1) := dt_Ref_init 242
theorem d_Ref_init_481 : decode (jm_cod M_Ref_init) 481 = .ok (.bipush 16, 2) := dt_Ref_init 243
theorem d_Ref_init_483 : decode (jm_cod M_Ref_init) 483 = .ok (.newarray .int, 2) := dt_Ref_init 244
theorem d_Ref_init_485 : decode (jm_cod M_Ref_init) 485 = .ok (.putfield 193, 3) := dt_Ref_init 245
theorem d_Ref_init_488 : decode (jm_cod M_Ref_init) 488 = .ok (.aload_n 0, 1) := dt_Ref_init 246
theorem d_Ref_init_489 : decode (jm_cod M_Ref_init) 489 = .ok (.bipush 16, 2) := dt_Ref_init 247
theorem d_Ref_init_491 : decode (jm_cod M_Ref_init) 491 = .ok (.newarray .int, 2) := dt_Ref_init 248
theorem d_Ref_init_493 : decode (jm_cod M_Ref_init) 493 = .ok (.putfield 196, 3) := dt_Ref_init 249
theorem d_Ref_init_496 : decode (jm_cod M_Ref_init) 496 = .ok (.aload_n 0, 1) := dt_Ref_init 250
theorem d_Ref_init_497 : decode (jm_cod M_Ref_init) 497 = .ok (.bipush 16, 2) := dt_Ref_init 251
theorem d_Ref_init_499 : decode (jm_cod M_Ref_init) 499 = .ok (.newarray .int, 2) := dt_Ref_init 252
theorem d_Ref_init_501 : decode (jm_cod M_Ref_init) 501 = .ok (.putfield 199, 3) := dt_Ref_init 253
theorem d_Ref_init_504 : decode (jm_cod M_Ref_init) 504 = .ok (.aload_n 0, 1) := dt_Ref_init 254
theorem d_Ref_init_505 : decode (jm_cod M_Ref_init) 505 = .ok (.sipush 256, 3) := dt_Ref_init 255
theorem d_Ref_init_508 : decode (jm_cod M_Ref_init) 508 = .ok (.newarray .long, 2) := dt_Ref_init 256
theorem d_Ref_init_510 : decode (jm_cod M_Ref_init) 510 = .ok (.putfield 202, 3) := dt_Ref_init 257
theorem d_Ref_init_513 : decode (jm_cod M_Ref_init) 513 = .ok (.aload_n 0, 1) := dt_Ref_init 258
theorem d_Ref_init_514 : decode (jm_cod M_Ref_init) 514 = .ok (.sipush 256, 3) := dt_Ref_init 259
theorem d_Ref_init_517 : decode (jm_cod M_Ref_init) 517 = .ok (.newarray .int, 2) := dt_Ref_init 260
theorem d_Ref_init_519 : decode (jm_cod M_Ref_init) 519 = .ok (.putfield 205, 3) := dt_Ref_init 261
theorem d_Ref_init_522 : decode (jm_cod M_Ref_init) 522 = .ok (.aload_n 0, 1) := dt_Ref_init 262
theorem d_Ref_init_523 : decode (jm_cod M_Ref_init) 523 = .ok (.iconst 4, 1) := dt_Ref_init 263
theorem d_Ref_init_524 : decode (jm_cod M_Ref_init) 524 = .ok (.newarray .int, 2) := dt_Ref_init 264
theorem d_Ref_init_526 : decode (jm_cod M_Ref_init) 526 = .ok (.putfield 208, 3) := dt_Ref_init 265
theorem d_Ref_init_529 : decode (jm_cod M_Ref_init) 529 = .ok (.aload_n 0, 1) := dt_Ref_init 266
theorem d_Ref_init_530 : decode (jm_cod M_Ref_init) 530 = .ok (.iconst 4, 1) := dt_Ref_init 267
theorem d_Ref_init_531 : decode (jm_cod M_Ref_init) 531 = .ok (.newarray .int, 2) := dt_Ref_init 268
theorem d_Ref_init_533 : decode (jm_cod M_Ref_init) 533 = .ok (.putfield 211, 3) := dt_Ref_init 269
theorem d_Ref_init_536 : decode (jm_cod M_Ref_init) 536 = .ok (.aload_n 0, 1) := dt_Ref_init 270
theorem d_Ref_init_537 : decode (jm_cod M_Ref_init) 537 = .ok (.iconst 4, 1) := dt_Ref_init 271
theorem d_Ref_init_538 : decode (jm_cod M_Ref_init) 538 = .ok (.newarray .int, 2) := dt_Ref_init 272
theorem d_Ref_init_540 : decode (jm_cod M_Ref_init) 540 = .ok (.putfield 214, 3) := dt_Ref_init 273
theorem d_Ref_init_543 : decode (jm_cod M_Ref_init) 543 = .ok (.aload_n 0, 1) := dt_Ref_init 274
theorem d_Ref_init_544 : decode (jm_cod M_Ref_init) 544 = .ok (.iconst 4, 1) := dt_Ref_init 275
theorem d_Ref_init_545 : decode (jm_cod M_Ref_init) 545 = .ok (.newarray .int, 2) := dt_Ref_init 276
theorem d_Ref_init_547 : decode (jm_cod M_Ref_init) 547 = .ok (.putfield 217, 3) := dt_Ref_init 277
theorem d_Ref_init_550 : decode (jm_cod M_Ref_init) 550 = .ok (.aload_n 0, 1) := dt_Ref_init 278
theorem d_Ref_init_551 : decode (jm_cod M_Ref_init) 551 = .ok (.sipush 256, 3) := dt_Ref_init 279
theorem d_Ref_init_554 : decode (jm_cod M_Ref_init) 554 = .ok (.newarray .int, 2) := dt_Ref_init 280
theorem d_Ref_init_556 : decode (jm_cod M_Ref_init) 556 = .ok (.putfield 220, 3) := dt_Ref_init 281
theorem d_Ref_init_559 : decode (jm_cod M_Ref_init) 559 = .ok (.aload_n 0, 1) := dt_Ref_init 282
theorem d_Ref_init_560 : decode (jm_cod M_Ref_init) 560 = .ok (.sipush 256, 3) := dt_Ref_init 283
theorem d_Ref_init_563 : decode (jm_cod M_Ref_init) 563 = .ok (.newarray .int, 2) := dt_Ref_init 284
theorem d_Ref_init_565 : decode (jm_cod M_Ref_init) 565 = .ok (.putfield 223, 3) := dt_Ref_init 285
theorem d_Ref_init_568 : decode (jm_cod M_Ref_init) 568 = .ok (.aload_n 0, 1) := dt_Ref_init 286
theorem d_Ref_init_569 : decode (jm_cod M_Ref_init) 569 = .ok (.bipush 50, 2) := dt_Ref_init 287
theorem d_Ref_init_571 : decode (jm_cod M_Ref_init) 571 = .ok (.newarray .boolean, 2) := dt_Ref_init 288
theorem d_Ref_init_573 : decode (jm_cod M_Ref_init) 573 = .ok (.putfield 226, 3) := dt_Ref_init 289
theorem d_Ref_init_576 : decode (jm_cod M_Ref_init) 576 = .ok (.aload_n 0, 1) := dt_Ref_init 290
theorem d_Ref_init_577 : decode (jm_cod M_Ref_init) 577 = .ok (.bipush 50, 2) := dt_Ref_init 291
theorem d_Ref_init_579 : decode (jm_cod M_Ref_init) 579 = .ok (.newarray .long, 2) := dt_Ref_init 292
theorem d_Ref_init_581 : decode (jm_cod M_Ref_init) 581 = .ok (.putfield 229, 3) := dt_Ref_init 293
theorem d_Ref_init_584 : decode (jm_cod M_Ref_init) 584 = .ok (.aload_n 0, 1) := dt_Ref_init 294
theorem d_Ref_init_585 : decode (jm_cod M_Ref_init) 585 = .ok (.bipush 50, 2) := dt_Ref_init 295
theorem d_Ref_init_587 : decode (jm_cod M_Ref_init) 587 = .ok (.newarray .int, 2) := dt_Ref_init 296
theorem d_Ref_init_589 : decode (jm_cod M_Ref_init) 589 = .ok (.putfield 232, 3) := dt_Ref_init 297
theorem d_Ref_init_592 : decode (jm_cod M_Ref_init) 592 = .ok (.aload_n 0, 1) := dt_Ref_init 298
theorem d_Ref_init_593 : decode (jm_cod M_Ref_init) 593 = .ok (.bipush 10, 2) := dt_Ref_init 299
theorem d_Ref_init_595 : decode (jm_cod M_Ref_init) 595 = .ok (.newarray .int, 2) := dt_Ref_init 300
theorem d_Ref_init_597 : decode (jm_cod M_Ref_init) 597 = .ok (.putfield 235, 3) := dt_Ref_init 301
theorem d_Ref_init_600 : decode (jm_cod M_Ref_init) 600 = .ok (.aload_n 0, 1) := dt_Ref_init 302
theorem d_Ref_init_601 : decode (jm_cod M_Ref_init) 601 = .ok (.bipush 10, 2) := dt_Ref_init 303
theorem d_Ref_init_603 : decode (jm_cod M_Ref_init) 603 = .ok (.newarray .int, 2) := dt_Ref_init 304
theorem d_Ref_init_605 : decode (jm_cod M_Ref_init) 605 = .ok (.putfield 238, 3) := dt_Ref_init 305
theorem d_Ref_init_608 : decode (jm_cod M_Ref_init) 608 = .ok (.aload_n 0, 1) := dt_Ref_init 306
theorem d_Ref_init_609 : decode (jm_cod M_Ref_init) 609 = .ok (.bipush 10, 2) := dt_Ref_init 307
theorem d_Ref_init_611 : decode (jm_cod M_Ref_init) 611 = .ok (.newarray .int, 2) := dt_Ref_init 308
theorem d_Ref_init_613 : decode (jm_cod M_Ref_init) 613 = .ok (.putfield 241, 3) := dt_Ref_init 309
theorem d_Ref_init_616 : decode (jm_cod M_Ref_init) 616 = .ok (.aload_n 0, 1) := dt_Ref_init 310
theorem d_Ref_init_617 : decode (jm_cod M_Ref_init) 617 = .ok (.bipush 10, 2) := dt_Ref_init 311
theorem d_Ref_init_619 : decode (jm_cod M_Ref_init) 619 = .ok (.newarray .int, 2) := dt_Ref_init 312
theorem d_Ref_init_621 : decode (jm_cod M_Ref_init) 621 = .ok (.putfield 244, 3) := dt_Ref_init 313
theorem d_Ref_init_624 : decode (jm_cod M_Ref_init) 624 = .ok (.aload_n 0, 1) := dt_Ref_init 314
theorem d_Ref_init_625 : decode (jm_cod M_Ref_init) 625 = .ok (.bipush 10, 2) := dt_Ref_init 315
theorem d_Ref_init_627 : decode (jm_cod M_Ref_init) 627 = .ok (.newarray .int, 2) := dt_Ref_init 316
theorem d_Ref_init_629 : decode (jm_cod M_Ref_init) 629 = .ok (.putfield 247, 3) := dt_Ref_init 317
theorem d_Ref_init_632 : decode (jm_cod M_Ref_init) 632 = .ok (.aload_n 0, 1) := dt_Ref_init 318
theorem d_Ref_init_633 : decode (jm_cod M_Ref_init) 633 = .ok (.bipush 10, 2) := dt_Ref_init 319
theorem d_Ref_init_635 : decode (jm_cod M_Ref_init) 635 = .ok (.newarray .int, 2) := dt_Ref_init 320
theorem d_Ref_init_637 : decode (jm_cod M_Ref_init) 637 = .ok (.putfield 250, 3) := dt_Ref_init 321
theorem d_Ref_init_640 : decode (jm_cod M_Ref_init) 640 = .ok (.aload_n 0, 1) := dt_Ref_init 322
theorem d_Ref_init_641 : decode (jm_cod M_Ref_init) 641 = .ok (.sipush 160, 3) := dt_Ref_init 323
theorem d_Ref_init_644 : decode (jm_cod M_Ref_init) 644 = .ok (.newarray .boolean, 2) := dt_Ref_init 324
theorem d_Ref_init_646 : decode (jm_cod M_Ref_init) 646 = .ok (.putfield 253, 3) := dt_Ref_init 325
theorem d_Ref_init_649 : decode (jm_cod M_Ref_init) 649 = .ok (.aload_n 0, 1) := dt_Ref_init 326
theorem d_Ref_init_650 : decode (jm_cod M_Ref_init) 650 = .ok (.sipush 160, 3) := dt_Ref_init 327
theorem d_Ref_init_653 : decode (jm_cod M_Ref_init) 653 = .ok (.newarray .long, 2) := dt_Ref_init 328
theorem d_Ref_init_655 : decode (jm_cod M_Ref_init) 655 = .ok (.putfield 256, 3) := dt_Ref_init 329
theorem d_Ref_init_658 : decode (jm_cod M_Ref_init) 658 = .ok (.aload_n 0, 1) := dt_Ref_init 330
theorem d_Ref_init_659 : decode (jm_cod M_Ref_init) 659 = .ok (.sipush 160, 3) := dt_Ref_init 331
theorem d_Ref_init_662 : decode (jm_cod M_Ref_init) 662 = .ok (.newarray .int, 2) := dt_Ref_init 332
theorem d_Ref_init_664 : decode (jm_cod M_Ref_init) 664 = .ok (.putfield 259, 3) := dt_Ref_init 333
theorem d_Ref_init_667 : decode (jm_cod M_Ref_init) 667 = .ok (.aload_n 0, 1) := dt_Ref_init 334
theorem d_Ref_init_668 : decode (jm_cod M_Ref_init) 668 = .ok (.sipush 160, 3) := dt_Ref_init 335
theorem d_Ref_init_671 : decode (jm_cod M_Ref_init) 671 = .ok (.newarray .boolean, 2) := dt_Ref_init 336
theorem d_Ref_init_673 : decode (jm_cod M_Ref_init) 673 = .ok (.putfield 262, 3) := dt_Ref_init 337
theorem d_Ref_init_676 : decode (jm_cod M_Ref_init) 676 = .ok (.aload_n 0, 1) := dt_Ref_init 338
theorem d_Ref_init_677 : decode (jm_cod M_Ref_init) 677 = .ok (.sipush 2560, 3) := dt_Ref_init 339
theorem d_Ref_init_680 : decode (jm_cod M_Ref_init) 680 = .ok (.newarray .int, 2) := dt_Ref_init 340
theorem d_Ref_init_682 : decode (jm_cod M_Ref_init) 682 = .ok (.putfield 265, 3) := dt_Ref_init 341
theorem d_Ref_init_685 : decode (jm_cod M_Ref_init) 685 = .ok (.aload_n 0, 1) := dt_Ref_init 342
theorem d_Ref_init_686 : decode (jm_cod M_Ref_init) 686 = .ok (.sipush 160, 3) := dt_Ref_init 343
theorem d_Ref_init_689 : decode (jm_cod M_Ref_init) 689 = .ok (.newarray .long, 2) := dt_Ref_init 344
theorem d_Ref_init_691 : decode (jm_cod M_Ref_init) 691 = .ok (.putfield 268, 3) := dt_Ref_init 345
theorem d_Ref_init_694 : decode (jm_cod M_Ref_init) 694 = .ok (.aload_n 0, 1) := dt_Ref_init 346
theorem d_Ref_init_695 : decode (jm_cod M_Ref_init) 695 = .ok (.sipush 160, 3) := dt_Ref_init 347
theorem d_Ref_init_698 : decode (jm_cod M_Ref_init) 698 = .ok (.newarray .int, 2) := dt_Ref_init 348
theorem d_Ref_init_700 : decode (jm_cod M_Ref_init) 700 = .ok (.putfield 271, 3) := dt_Ref_init 349
theorem d_Ref_init_703 : decode (jm_cod M_Ref_init) 703 = .ok (.aload_n 0, 1) := dt_Ref_init 350
theorem d_Ref_init_704 : decode (jm_cod M_Ref_init) 704 = .ok (.bipush 10, 2) := dt_Ref_init 351
theorem d_Ref_init_706 : decode (jm_cod M_Ref_init) 706 = .ok (.newarray .boolean, 2) := dt_Ref_init 352
theorem d_Ref_init_708 : decode (jm_cod M_Ref_init) 708 = .ok (.putfield 274, 3) := dt_Ref_init 353
theorem d_Ref_init_711 : decode (jm_cod M_Ref_init) 711 = .ok (.aload_n 0, 1) := dt_Ref_init 354
theorem d_Ref_init_712 : decode (jm_cod M_Ref_init) 712 = .ok (.bipush 10, 2) := dt_Ref_init 355
theorem d_Ref_init_714 : decode (jm_cod M_Ref_init) 714 = .ok (.newarray .boolean, 2) := dt_Ref_init 356
theorem d_Ref_init_716 : decode (jm_cod M_Ref_init) 716 = .ok (.putfield 277, 3) := dt_Ref_init 357
theorem d_Ref_init_719 : decode (jm_cod M_Ref_init) 719 = .ok (.aload_n 0, 1) := dt_Ref_init 358
theorem d_Ref_init_720 : decode (jm_cod M_Ref_init) 720 = .ok (.bipush 10, 2) := dt_Ref_init 359
theorem d_Ref_init_722 : decode (jm_cod M_Ref_init) 722 = .ok (.newarray .long, 2) := dt_Ref_init 360
theorem d_Ref_init_724 : decode (jm_cod M_Ref_init) 724 = .ok (.putfield 280, 3) := dt_Ref_init 361
theorem d_Ref_init_727 : decode (jm_cod M_Ref_init) 727 = .ok (.aload_n 0, 1) := dt_Ref_init 362
theorem d_Ref_init_728 : decode (jm_cod M_Ref_init) 728 = .ok (.bipush 10, 2) := dt_Ref_init 363
theorem d_Ref_init_730 : decode (jm_cod M_Ref_init) 730 = .ok (.newarray .int, 2) := dt_Ref_init 364
theorem d_Ref_init_732 : decode (jm_cod M_Ref_init) 732 = .ok (.putfield 283, 3) := dt_Ref_init 365
theorem d_Ref_init_735 : decode (jm_cod M_Ref_init) 735 = .ok (.aload_n 0, 1) := dt_Ref_init 366
theorem d_Ref_init_736 : decode (jm_cod M_Ref_init) 736 = .ok (.iload_n 1, 1) := dt_Ref_init 367
theorem d_Ref_init_737 : decode (jm_cod M_Ref_init) 737 = .ok (.iconst 4, 1) := dt_Ref_init 368
theorem d_Ref_init_738 : decode (jm_cod M_Ref_init) 738 = .ok (.invokestatic 286, 3) := dt_Ref_init 369
theorem d_Ref_init_741 : decode (jm_cod M_Ref_init) 741 = .ok (.putfield 290, 3) := dt_Ref_init 370
theorem d_Ref_init_744 : decode (jm_cod M_Ref_init) 744 = .ok (.aload_n 0, 1) := dt_Ref_init 371
theorem d_Ref_init_745 : decode (jm_cod M_Ref_init) 745 = .ok (.iload_n 2, 1) := dt_Ref_init 372
theorem d_Ref_init_746 : decode (jm_cod M_Ref_init) 746 = .ok (.iconst 4, 1) := dt_Ref_init 373
theorem d_Ref_init_747 : decode (jm_cod M_Ref_init) 747 = .ok (.invokestatic 286, 3) := dt_Ref_init 374
theorem d_Ref_init_750 : decode (jm_cod M_Ref_init) 750 = .ok (.putfield 294, 3) := dt_Ref_init 375
theorem d_Ref_init_753 : decode (jm_cod M_Ref_init) 753 = .ok (.aload_n 0, 1) := dt_Ref_init 376
theorem d_Ref_init_754 : decode (jm_cod M_Ref_init) 754 = .ok (.iload_n 3, 1) := dt_Ref_init 377
theorem d_Ref_init_755 : decode (jm_cod M_Ref_init) 755 = .ok (.bipush 8, 2) := dt_Ref_init 378
theorem d_Ref_init_757 : decode (jm_cod M_Ref_init) 757 = .ok (.invokestatic 286, 3) := dt_Ref_init 379
theorem d_Ref_init_760 : decode (jm_cod M_Ref_init) 760 = .ok (.putfield 297, 3) := dt_Ref_init 380
theorem d_Ref_init_763 : decode (jm_cod M_Ref_init) 763 = .ok (.aload_n 0, 1) := dt_Ref_init 381
theorem d_Ref_init_764 : decode (jm_cod M_Ref_init) 764 = .ok (.invokevirtual 300, 3) := dt_Ref_init 382
theorem d_Ref_init_767 : decode (jm_cod M_Ref_init) 767 = .ok (.return_, 1) := dt_Ref_init 383
def tab_Ref_near : List (Nat × Instr × Nat) := [(0, .iload_n 0, 1), (1, .iconst 1, 1), (2, .if_icmp .ge 7, 3), (5, .iconst 1, 1), (6, .goto 13, 3), (9, .iload_n 0, 1), (10, .iload_n 1, 1), (11, .if_icmp .le 7, 3), (14, .iload_n 1, 1), (15, .goto 4, 3), (18, .iload_n 0, 1), (19, .ireturn, 1)]
theorem dt_Ref_near (i : Nat) : decode (jm_cod M_Ref_near) (tab_Ref_near.getD i (0, .iload_n 0, 1)).1 = .ok ((tab_Ref_near.getD i (0, .iload_n 0, 1)).2.1, (tab_Ref_near.getD i (0, .iload_n 0, 1)).2.2) := j_tab (by decide +kernel) i
theorem d_Ref_near_0 : decode (jm_cod M_Ref_near) 0 = .ok (.iload_n 0, 1) := dt_Ref_near 0
theorem d_Ref_near_1 : decode (jm_cod M_Ref_near) 1 = .ok (.iconst 1, 1) := dt_Ref_near 1
theorem d_Ref_near_2 : decode (jm_cod M_Ref_near) 2 = .ok (.if_icmp .ge 7, 3) := dt_Ref_near 2
theorem d_Ref_near_5 : decode (jm_cod M_Ref_near) 5 = .ok (.iconst 1, 1) := dt_Ref_near 3
theorem d_Ref_near_6 : decode (jm_cod M_Ref_near) 6 = .ok (.goto 13, 3) := dt_Ref_near 4
theorem d_Ref_near_9 : decode (jm_cod M_Ref_near) 9 = .ok (.iload_n 0, 1) := dt_Ref_near 5
theorem d_Ref_near_10 : decode (jm_cod M_Ref_near) 10 = .ok (.iload_n 1, 1) := dt_Ref_near 6
theorem d_Ref_near_11 : decode (jm_cod M_Ref_near) 11 = .ok (.if_icmp .le 7, 3) := dt_Ref_near 7
theorem d_Ref_near_14 : decode (jm_cod M_Ref_near) 14 = .ok (.iload_n 1, 1) := dt_Ref_near 8
theorem d_Ref_near_15 : decode (jm_cod M_Ref_near) 15 = .ok (.goto 4, 3) := dt_Ref_near 9
theorem d_Ref_near_18 : decode (jm_cod M_Ref_near) 18 = .ok (.iload_n 0, 1) := dt_Ref_near 10
theorem d_Ref_near_19 : decode (jm_cod M_Ref_near) 19 = .ok (.ireturn, 1) := dt_Ref_near 11
def tab_Ref_clear : List (Nat × Instr × Nat) := [(0, .aload_n 0, 1), (1, .iconst 0, 1), (2, .putfield 303, 3), (5, .aload_n 0, 1), (6, .iconst 1, 1), (7, .putfield 532, 3), (10, .aload_n 0, 1), (11, .iconst 0, 1), (12, .putfield 559, 3), (15, .aload_n 0, 1), (16, .iconst 0, 1), (17, .putfield 348, 3), (20, .aload_n 0, 1), (21, .iconst 0, 1), (22, .putfield 337, 3), (25, .aload_n 0, 1), (26, .iconst 0, 1), (27, .putfield 526, 3), (30, .aload_n 0, 1), (31, .iconst 0, 1), (32, .putfield 529, 3), (35, .aload_n 0, 1), (36, .iconst 0, 1), (37, .putfield 553, 3), (40, .iconst 0, 1), (41, .istore_n 1, 1), (42, .iload_n 1, 1), (43, .bipush 16, 2), (45, .if_icmp .ge 35, 3), (48, .aload_n 0, 1), (49, .getfield 7, 3), (52, .iload_n 1, 1), (53, .iload_n 1, 1), (54, .aload_n 0, 1), (55, .getfield 294, 3), (58, .irem, 1), (59, .iastore, 1), (60, .aload_n 0, 1), (61, .getfield 160, 3), (64, .iload_n 1, 1), (65, .iconst 0, 1), (66, .bastore, 1), (67, .aload_n 0, 1), (68, .getfield 187, 3), (71, .iload_n 1, 1), (72, .iconst 0, 1), (73, .bastore, 1), (74, .iinc 1 1, 3), (77, .goto (-35), 3), (80, .iconst 0, 1), (81, .istore_n 1, 1), (82, .iload_n 1, 1), (83, .bipush 20, 2), (85, .if_icmp .ge 27, 3), (88, .aload_n 0, 1), (89, .getfield 13, 3), (92, .iload_n 1, 1), (93, .ldc_w 611, 3), (96, .iastore, 1), (97, .aload_n 0, 1), (98, .getfield 16, 3), (101, .iload_n 1, 1), (102, .ldc_w 611, 3), (105, .iastore, 1), (106, .iinc 1 1, 3), (109, .goto (-27), 3), (112, .iconst 0, 1), (113, .istore_n 1, 1), (114, .iload_n 1, 1), (115, .bipush 40, 2), (117, .if_icmp .ge 38, 3), (120, .aload_n 0, 1), (121, .iload_n 1, 1), (122, .iconst 0, 1), (123, .lconst 0, 1), (124, .iconst 0, 1), (125, .invokevirtual 359, 3), (128, .aload_n 0, 1), (129, .getfield 91, 3), (132, .iload_n 1, 1), (133, .iconst 0, 1), (134, .bastore, 1), (135, .aload_n 0, 1), (136, .getfield 100, 3), (139, .iload_n 1, 1), (140, .iconst 0, 1), (141, .bastore, 1), (142, .aload_n 0, 1), (143, .getfield 103, 3), (146, .iload_n 1, 1), (147, .iconst 0, 1), (148, .iastore, 1), (149, .iinc 1 1, 3), (152, .goto (-38), 3), (155, .iconst 0, 1), (156, .istore_n 1, 1), (157, .iload_n 1, 1), (158, .bipush 45, 2), (160, .if_icmp .ge 16, 3), (163, .aload_n 0, 1), (164, .getfield 115, 3), (167, .iload_n 1, 1), (168, .iconst 0, 1), (169, .iastore, 1), (170, .iinc 1 1, 3), (173, .goto (-16), 3), (176, .iconst 0, 1), (177, .istore_n 1, 1), (178, .iload_n 1, 1), (179, .iconst 5, 1), (180, .if_icmp .ge 33, 3), (183, .aload_n 0, 1), (184, .getfield 139, 3), (187, .iload_n 1, 1), (188, .aload_n 0, 1), (189, .getfield 290, 3), (192, .iconst 1, 1), (193, .isub, 1), (194, .iastore, 1), (195, .aload_n 0, 1), (196, .getfield 142, 3), (199, .iload_n 1, 1), (200, .aload_n 0, 1), (201, .getfield 290, 3), (204, .iconst 1, 1), (205, .isub, 1), (206, .iastore, 1), (207, .iinc 1 1, 3), (210, .goto (-32), 3), (213, .iconst 0, 1), (214, .istore_n 1, 1), (215, .iload_n 1, 1), (216, .iconst 4, 1), (217, .if_icmp .ge 85, 3), (220, .aload_n 0, 1), (221, .getfield 19, 3), (224, .iload_n 1, 1), (225, .iconst 0, 1), (226, .bastore, 1), (227, .aload_n 0, 1), (228, .getfield 23, 3), (231, .iload_n 1, 1), (232, .iconst 0, 1), (233, .iastore, 1), (234, .aload_n 0, 1), (235, .getfield 26, 3), (238, .iload_n 1, 1), (239, .iconst 0, 1), (240, .iastore, 1), (241, .aload_n 0, 1), (242, .getfield 145, 3), (245, .iload_n 1, 1), (246, .aload_n 0, 1), (247, .getfield 294, 3), (250, .iastore, 1), (251, .aload_n 0, 1), (252, .getfield 148, 3), (255, .iload_n 1, 1), (256, .aload_n 0, 1), (257, .getfield 294, 3), (260, .iastore, 1), (261, .aload_n 0, 1), (262, .getfield 151, 3), (265, .iload_n 1, 1), (266, .iconst 0, 1), (267, .bastore, 1), (268, .aload_n 0, 1), (269, .getfield 154, 3), (272, .iload_n 1, 1), (273, .iconst 0, 1), (274, .iastore, 1), (275, .aload_n 0, 1), (276, .getfield 181, 3), (279, .iload_n 1, 1), (280, .iconst 0, 1), (281, .iastore, 1), (282, .aload_n 0, 1), (283, .getfield 208, 3), (286, .iload_n 1, 1), (287, .iconst 0, 1), (288, .iastore, 1), (289, .aload_n 0, 1), (290, .getfield 211, 3), (293, .iload_n 1, 1), (294, .iconst (-1), 1), (295, .iastore, 1), (296, .iinc 1 1, 3), (299, .goto (-84), 3), (302, .iconst 0, 1), (303, .istore_n 1, 1), (304, .iload_n 1, 1), (305, .sipush 256, 3), (308, .if_icmp .ge 16, 3), (311, .aload_n 0, 1), (312, .getfield 220, 3), (315, .iload_n 1, 1), (316, .iconst (-1), 1), (317, .iastore, 1), (318, .iinc 1 1, 3), (321, .goto (-17), 3), (324, .iconst 0, 1), (325, .istore_n 1, 1), (326, .iload_n 1, 1), (327, .ldc 29, 2), (329, .if_icmp .ge 23, 3), (332, .aload_n 0, 1), (333, .getfield 30, 3), (336, .iload_n 1, 1), (337, .iconst 0, 1), (338, .iastore, 1), (339, .aload_n 0, 1), (340, .getfield 33, 3), (343, .iload_n 1, 1), (344, .iconst 0, 1), (345, .bastore, 1), (346, .iinc 1 1, 3), (349, .goto (-23), 3), (352, .iconst 0, 1), (353, .istore_n 1, 1), (354, .iload_n 1, 1), (355, .bipush 10, 2), (357, .if_icmp .ge 14, 3), (360, .aload_n 0, 1), (361, .iload_n 1, 1), (362, .invokevirtual 647, 3), (365, .iinc 1 1, 3), (368, .goto (-14), 3), (371, .aload_n 0, 1), (372, .iconst 0, 1), (373, .invokevirtual 642, 3), (376, .aload_n 0, 1), (377, .iconst 1, 1), (378, .invokevirtual 642, 3), (381, .return_, 1)]
theorem dt_Ref_clear (i : Nat) : decode (jm_cod M_Ref_clear) (tab_Ref_clear.getD i (0, .aload_n 0, 1)).1 = .ok ((tab_Ref_clear.getD i (0, .aload_n 0, 1)).2.1, (tab_Ref_clear.getD i (0, .aload_n 0, 1)).2.2) := j_tab (by decide +kernel) i
theorem d_Ref_clear_0 : decode (jm_cod M_Ref_clear) 0 = .ok (.aload_n 0, 1) := dt_Ref_clear 0
theorem d_Ref_clear_1 : decode (jm_cod M_Ref_clear) 1 = .ok (.iconst 0, 1) := dt_Ref_clear 1
theorem d_Ref_clear_2 : decode (jm_cod M_Ref_clear) 2 = .ok (.putfield 303, 3) := dt_Ref_clear 2
theorem d_Ref_clear_5 : decode (jm_cod M_Ref_clear) 5 = .ok (.aload_n 0, 1) := dt_Ref_clear 3
theorem d_Ref_clear_6 : decode (jm_cod M_Ref_clear) 6 = .ok (.iconst 1, 1) := dt_Ref_clear 4
theorem d_Ref_clear_7 : decode (jm_cod M_Ref_clear) 7 = .ok (.putfield 532, 3) := dt_Ref_clear 5
theorem d_Ref_clear_10 : decode (jm_cod M_Ref_clear) 10 = .ok (.aload_n 0, 1) := dt_Ref_clear 6
theorem d_Ref_clear_11 : decode (jm_cod M_Ref_clear) 11 = .ok (.iconst 0, 1) := dt_Ref_clear 7
theorem d_Ref_clear_12 : decode (jm_cod M_Ref_clear) 12 = .ok (.putfield 559, 3) := dt_Ref_clear 8
theorem d_Ref_clear_15 : decode (jm_cod M_Ref_clear) 15 = .ok (.aload_n 0, 1) := dt_Ref_clear 9
theorem d_Ref_clear_16 : decode (jm_cod M_Ref_clear) 16 = .ok (.iconst 0, 1) := dt_Ref_clear 10
theorem d_Ref_clear_17 : decode (jm_cod M_Ref_clear) 17 = .ok (.putfield 348, 3) := dt_Ref_clear 11
theorem d_Ref_clear_20 : decode (jm_cod M_Ref_clear) 20 = .ok (.aload_n 0, 1) := dt_Ref_clear 12
theorem d_Ref_clear_21 : decode (jm_cod M_Ref_clear) 21 = .ok (.iconst 0, 1) := dt_Ref_clear 13
theorem d_Ref_clear_22 : decode (jm_cod M_Ref_clear) 22 = .ok (.putfield 337, 3) := dt_Ref_clear 14
theorem d_Ref_clear_25 : decode (jm_cod M_Ref_clear) 25 = .ok (.aload_n 0, 1) := dt_Ref_clear 15
theorem d_Ref_clear_26 : decode (jm_cod M_Ref_clear) 26 = .ok (.iconst 0, 1) := dt_Ref_clear 16
theorem d_Ref_clear_27 : decode (jm_cod M_Ref_clear) 27 = .ok (.putfield 526, 3) := dt_Ref_clear 17
theorem d_Ref_clear_30 : decode (jm_cod M_Ref_clear) 30 = .ok (.aload_n 0, 1) := dt_Ref_clear 18
theorem d_Ref_clear_31 : decode (jm_cod M_Ref_clear) 31 = .ok (.iconst 0, 1) := dt_Ref_clear 19
theorem d_Ref_clear_32 : decode (jm_cod M_Ref_clear) 32 = .ok (.putfield 529, 3) := dt_Ref_clear 20
theorem d_Ref_clear_35 : decode (jm_cod M_Ref_clear) 35 = .ok (.aload_n 0, 1) := dt_Ref_clear 21
theorem d_Ref_clear_36 : decode (jm_cod M_Ref_clear) 36 = .ok (.iconst 0, 1) := dt_Ref_clear 22
theorem d_Ref_clear_37 : decode (jm_cod M_Ref_clear) 37 = .ok (.putfield 553, 3) := dt_Ref_clear 23
theorem d_Ref_clear_40 : decode (jm_cod M_Ref_clear) 40 = .ok (.iconst 0, 1) := dt_Ref_clear 24
theorem d_Ref_clear_41 : decode (jm_cod M_Ref_clear) 41 = .ok (.istore_n 1, 1) := dt_Ref_clear 25
theorem d_Ref_clear_42 : decode (jm_cod M_Ref_clear) 42 = .ok (.iload_n 1, 1) := dt_Ref_clear 26
theorem d_Ref_clear_43 : decode (jm_cod M_Ref_clear) 43 = .ok (.bipush 16, 2) := dt_Ref_clear 27
theorem d_Ref_clear_45 : decode (jm_cod M_Ref_clear) 45 = .ok (.if_icmp .ge 35, 3) := dt_Ref_clear 28
theorem d_Ref_clear_48 : decode (jm_cod M_Ref_clear) 48 = .ok (.aload_n 0, 1) := dt_Ref_clear 29
theorem d_Ref_clear_49 : decode (jm_cod M_Ref_clear) 49 = .ok (.getfield 7, 3) := dt_Ref_clear 30
theorem d_Ref_clear_52 : decode (jm_cod M_Ref_clear) 52 = .ok (.iload_n 1, 1) := dt_Ref_clear 31
theorem d_Ref_clear_53 : decode (jm_cod M_Ref_clear) 53 = .ok (.iload_n 1, 1) := dt_Ref_clear 32
theorem d_Ref_clear_54 : decode (jm_cod M_Ref_clear) 54 = .ok (.aload_n 0, 1) := dt_Ref_clear 33
theorem d_Ref_clear_55 : decode (jm_cod M_Ref_clear) 55 = .ok (.getfield 294, 3) := dt_Ref_clear 34
theorem d_Ref_clear_58 : decode (jm_cod M_Ref_clear) 58 = .ok (.irem, 1) := dt_Ref_clear 35
theorem d_Ref_clear_59 : decode (jm_cod M_Ref_clear) 59 = .ok (.iastore, 1) := dt_Ref_clear 36
theorem d_Ref_clear_60 : decode (jm_cod M_Ref_clear) 60 = .ok (.aload_n 0, 1) := dt_Ref_clear 37
theorem d_Ref_clear_61 : decode (jm_cod M_Ref_clear) 61 = .ok (.getfield 160, 3) := dt_Ref_clear 38
theorem d_Ref_clear_64 : decode (jm_cod M_Ref_clear) 64 = .ok (.iload_n 1, 1) := dt_Ref_clear 39
theorem d_Ref_clear_65 : decode (jm_cod M_Ref_clear) 65 = .ok (.iconst 0, 1) := dt_Ref_clear 40
theorem d_Ref_clear_66 : decode (jm_cod M_Ref_clear) 66 = .ok (.bastore, 1) := dt_Ref_clear 41
theorem d_Ref_clear_67 : decode (jm_cod M_Ref_clear) 67 = .ok (.aload_n 0, 1) := dt_Ref_clear 42
theorem d_Ref_clear_68 : decode (jm_cod M_Ref_clear) 68 = .ok (.getfield 187, 3) := dt_Ref_clear 43
theorem d_Ref_clear_71 : decode (jm_cod M_Ref_clear) 71 = .ok (.iload_n 1, 1) := dt_Ref_clear 44
theorem d_Ref_clear_72 : decode (jm_cod M_Ref_clear) 72 = .ok (.iconst 0, 1) := dt_Ref_clear 45
theorem d_Ref_clear_73 : decode (jm_cod M_Ref_clear) 73 = .ok (.bastore, 1) := dt_Ref_clear 46
theorem d_Ref_clear_74 : decode (jm_cod M_Ref_clear) 74 = .ok (.iinc 1 1, 3) := dt_Ref_clear 47
theorem d_Ref_clear_77 : decode (jm_cod M_Ref_clear) 77 = .ok (.goto (-35), 3) := dt_Ref_clear 48
theorem d_Ref_clear_80 : decode (jm_cod M_Ref_clear) 80 = .ok (.iconst 0, 1) := dt_Ref_clear 49
theorem d_Ref_clear_81 : decode (jm_cod M_Ref_clear) 81 = .ok (.istore_n 1, 1) := dt_Ref_clear 50
theorem d_Ref_clear_82 : decode (jm_cod M_Ref_clear) 82 = .ok (.iload_n 1, 1) := dt_Ref_clear 51
theorem d_Ref_clear_83 : decode (jm_cod M_Ref_clear) 83 = .ok (.bipush 20, 2) := dt_Ref_clear 52
theorem d_Ref_clear_85 : decode (jm_cod M_Ref_clear) 85 = .ok (.if_icmp .ge 27, 3) := dt_Ref_clear 53
theorem d_Ref_clear_88 : decode (jm_cod M_Ref_clear) 88 = .ok (.aload_n 0, 1) := dt_Ref_clear 54
theorem d_Ref_clear_89 : decode (jm_cod M_Ref_clear) 89 = .ok (.getfield 13, 3) := dt_Ref_clear 55
theorem d_Ref_clear_92 : decode (jm_cod M_Ref_clear) 92 = .ok (.iload_n 1, 1) := dt_Ref_clear 56
theorem d_Ref_clear_93 : decode (jm_cod M_Ref_clear) 93 = .ok (.ldc_w 611, 3) := dt_Ref_clear 57
theorem d_Ref_clear_96 : decode (jm_cod M_Ref_clear) 96 = .ok (.iastore, 1) := dt_Ref_clear 58
theorem d_Ref_clear_97 : decode (jm_cod M_Ref_clear) 97 = .ok (.aload_n 0, 1) := dt_Ref_clear 59
theorem d_Ref_clear_98 : decode (jm_cod M_Ref_clear) 98 = .ok (.getfield 16, 3) := dt_Ref_clear 60
theorem d_Ref_clear_101 : decode (jm_cod M_Ref_clear) 101 = .ok (.iload_n 1, 1) := dt_Ref_clear 61
theorem d_Ref_clear_102 : decode (jm_cod M_Ref_clear) 102 = .ok (.ldc_w 611, 3) := dt_Ref_clear 62
theorem d_Ref_clear_105 : decode (jm_cod M_Ref_clear) 105 = .ok (.iastore, 1) := dt_Ref_clear 63
theorem d_Ref_clear_106 : decode (jm_cod M_Ref_clear) 106 = .ok (.iinc 1 1, 3) := dt_Ref_clear 64
theorem d_Ref_clear_109 : decode (jm_cod M_Ref_clear) 109 = .ok (.goto (-27), 3) := dt_Ref_clear 65
theorem d_Ref_clear_112 : decode (jm_cod M_Ref_clear) 112 = .ok (.iconst 0, 1) := dt_Ref_clear 66
theorem d_Ref_clear_113 : decode (jm_cod M_Ref_clear) 113 = .ok (.istore_n 1, 1) := dt_Ref_clear 67
theorem d_Ref_clear_114 : decode (jm_cod M_Ref_clear) 114 = .ok (.iload_n 1, 1) := dt_Ref_clear 68
theorem d_Ref_clear_115 : decode (jm_cod M_Ref_clear) 115 = .ok (.bipush 40, 2) := dt_Ref_clear 69
theorem d_Ref_clear_117 : decode (jm_cod M_Ref_clear) 117 = .ok (.if_icmp .ge 38, 3) := dt_Ref_clear 70
theorem d_Ref_clear_120 : decode (jm_cod M_Ref_clear) 120 = .ok (.aload_n 0, 1) := dt_Ref_clear 71
theorem d_Ref_clear_121 : decode (jm_cod M_Ref_clear) 121 = .ok (.iload_n 1, 1) := dt_Ref_clear 72
theorem d_Ref_clear_122 : decode (jm_cod M_Ref_clear) 122 = .ok (.iconst 0, 1) := dt_Ref_clear 73
theorem d_Ref_clear_123 : decode (jm_cod M_Ref_clear) 123 = .ok (.lconst 0, 1) := dt_Ref_clear 74
theorem d_Ref_clear_124 : decode (jm_cod M_Ref_clear) 124 = .ok (.iconst 0, 1) := dt_Ref_clear 75
theorem d_Ref_clear_125 : decode (jm_cod M_Ref_clear) 125 = .ok (.invokevirtual 359, 3) := dt_Ref_clear 76
theorem d_Ref_clear_128 : decode (jm_cod M_Ref_clear) 128 = .ok (.aload_n 0, 1) := dt_Ref_clear 77
theorem d_Ref_clear_129 : decode (jm_cod M_Ref_clear) 129 = .ok (.getfield 91, 3) := dt_Ref_clear 78
theorem d_Ref_clear_132 : decode (jm_cod M_Ref_clear) 132 = .ok (.iload_n 1, 1) := dt_Ref_clear 79
theorem d_Ref_clear_133 : decode (jm_cod M_Ref_clear) 133 = .ok (.iconst 0, 1) := dt_Ref_clear 80
theorem d_Ref_clear_134 : decode (jm_cod M_Ref_clear) 134 = .ok (.bastore, 1) := dt_Ref_clear 81
theorem d_Ref_clear_135 : decode (jm_cod M_Ref_clear) 135 = .ok (.aload_n 0, 1) := dt_Ref_clear 82
theorem d_Ref_clear_136 : decode (jm_cod M_Ref_clear) 136 = .ok (.getfield 100, 3) := dt_Ref_clear 83
theorem d_Ref_clear_139 : decode (jm_cod M_Ref_clear) 139 = .ok (.iload_n 1, 1) := dt_Ref_clear 84
theorem d_Ref_clear_140 : decode (jm_cod M_Ref_clear) 140 = .ok (.iconst 0, 1) := dt_Ref_clear 85
theorem d_Ref_clear_141 : decode (jm_cod M_Ref_clear) 141 = .ok (.bastore, 1) := dt_Ref_clear 86
theorem d_Ref_clear_142 : decode (jm_cod M_Ref_clear) 142 = .ok (.aload_n 0, 1) := dt_Ref_clear 87
theorem d_Ref_clear_143 : decode (jm_cod M_Ref_clear) 143 = .ok (.getfield 103, 3) := dt_Ref_clear 88
theorem d_Ref_clear_146 : decode (jm_cod M_Ref_clear) 146 = .ok (.iload_n 1, 1) := dt_Ref_clear 89
theorem d_Ref_clear_147 : decode (jm_cod M_Ref_clear) 147 = .ok (.iconst 0, 1) := dt_Ref_clear 90
theorem d_Ref_clear_148 : decode (jm_cod M_Ref_clear) 148 = .ok (.iastore, 1) := dt_Ref_clear 91
theorem d_Ref_clear_149 : decode (jm_cod M_Ref_clear) 149 = .ok (.iinc 1 1, 3) := dt_Ref_clear 92
theorem d_Ref_clear_152 : decode (jm_cod M_Ref_clear) 152 = .ok (.goto (-38), 3) := dt_Ref_clear 93
theorem d_Ref_clear_155 : decode (jm_cod M_Ref_clear) 155 = .ok (.iconst 0, 1) := dt_Ref_clear 94
theorem d_Ref_clear_156 : decode (jm_cod M_Ref_clear) 156 = .ok (.istore_n 1, 1) := dt_Ref_clear 95
theorem d_Ref_clear_157 : decode (jm_cod M_Ref_clear) 157 = .ok (.iload_n 1, 1) := dt_Ref_clear 96
theorem d_Ref_clear_158 : decode (jm_cod M_Ref_clear) 158 = .ok (.bipush 45, 2) := dt_Ref_clear 97
theorem d_Ref_clear_160 : decode (jm_cod M_Ref_clear) 160 = .ok (.if_icmp .ge 16, 3) := dt_Ref_clear 98
theorem d_Ref_clear_163 : decode (jm_cod M_Ref_clear) 163 = .ok (.aload_n 0, 1) := dt_Ref_clear 99
theorem d_Ref_clear_164 : decode (jm_cod M_Ref_clear) 164 = .ok (.getfield 115, 3) := dt_Ref_clear 100
theorem d_Ref_clear_167 : decode (jm_cod M_Ref_clear) 167 = .ok (.iload_n 1, 1) := dt_Ref_clear 101
theorem d_Ref_clear_168 : decode (jm_cod M_Ref_clear) 168 = .ok (.iconst 0, 1) := dt_Ref_clear 102
theorem d_Ref_clear_169 : decode (jm_cod M_Ref_clear) 169 = .ok (.iastore, 1) := dt_Ref_clear 103
theorem d_Ref_clear_170 : decode (jm_cod M_Ref_clear) 170 = .ok (.iinc 1 1, 3) := dt_Ref_clear 104
theorem d_Ref_clear_173 : decode (jm_cod M_Ref_clear) 173 = .ok (.goto (-16), 3) := dt_Ref_clear 105
theorem d_Ref_clear_176 : decode (jm_cod M_Ref_clear) 176 = .ok (.iconst 0, 1) := dt_Ref_clear 106
theorem d_Ref_clear_177 : decode (jm_cod M_Ref_clear) 177 = .ok (.istore_n 1, 1) := dt_Ref_clear 107
theorem d_Ref_clear_178 : decode (jm_cod M_Ref_clear) 178 = .ok (.iload_n 1, 1) := dt_Ref_clear 108
theorem d_Ref_clear_179 : decode (jm_cod M_Ref_clear) 179 = .ok (.iconst 5, 1) := dt_Ref_clear 109
theorem d_Ref_clear_180 : decode (jm_cod M_Ref_clear) 180 = .ok (.if_icmp .ge 33, 3) := dt_Ref_clear 110
theorem d_Ref_clear_183 : decode (jm_cod M_Ref_clear) 183 = .ok (.aload_n 0, 1) := dt_Ref_clear 111
theorem d_Ref_clear_184 : decode (jm_cod M_Ref_clear) 184 = .ok (.getfield 139, 3) := dt_Ref_clear 112
theorem d_Ref_clear_187 : decode (jm_cod M_Ref_clear) 187 = .ok (.iload_n 1, 1) := dt_Ref_clear 113
theorem d_Ref_clear_188 : decode (jm_cod M_Ref_clear) 188 = .ok (.aload_n 0, 1) := dt_Ref_clear 114
theorem d_Ref_clear_189 : decode (jm_cod M_Ref_clear) 189 = .ok (.getfield 290, 3) := dt_Ref_clear 115
theorem d_Ref_clear_192 : decode (jm_cod M_Ref_clear) 192 = .ok (.iconst 1, 1) := dt_Ref_clear 116
theorem d_Ref_clear_193 : decode (jm_cod M_Ref_clear) 193 = .ok (.isub, 1) := dt_Ref_clear 117
theorem d_Ref_clear_194 : decode (jm_cod M_Ref_clear) 194 = .ok (.iastore, 1) := dt_Ref_clear 118
theorem d_Ref_clear_195 : decode (jm_cod M_Ref_clear) 195 = .ok (.aload_n 0, 1) := dt_Ref_clear 119
theorem d_Ref_clear_196 : decode (jm_cod M_Ref_clear) 196 = .ok (.getfield 142, 3) := dt_Ref_clear 120
theorem d_Ref_clear_199 : decode (jm_cod M_Ref_clear) 199 = .ok (.iload_n 1, 1) := dt_Ref_clear 121
theorem d_Ref_clear_200 : decode (jm_cod M_Ref_clear) 200 = .ok (.aload_n 0, 1) := dt_Ref_clear 122
theorem d_Ref_clear_201 : decode (jm_cod M_Ref_clear) 201 = .ok (.getfield 290, 3) := dt_Ref_clear 123
theorem d_Ref_clear_204 : decode (jm_cod M_Ref_clear) 204 = .ok (.iconst 1, 1) := dt_Ref_clear 124
theorem d_Ref_clear_205 : decode (jm_cod M_Ref_clear) 205 = .ok (.isub, 1) := dt_Ref_clear 125
theorem d_Ref_clear_206 : decode (jm_cod M_Ref_clear) 206 = .ok (.iastore, 1) := dt_Ref_clear 126
theorem d_Ref_clear_207 : decode (jm_cod M_Ref_clear) 207 = .ok (.iinc 1 1, 3) := dt_Ref_clear 127
theorem d_Ref_clear_210 : decode (jm_cod M_Ref_clear) 210 = .ok (.goto (-32), 3) := dt_Ref_clear 128
theorem d_Ref_clear_213 : decode (jm_cod M_Ref_clear) 213 = .ok (.iconst 0, 1) := dt_Ref_clear 129
theorem d_Ref_clear_214 : decode (jm_cod M_Ref_clear) 214 = .ok (.istore_n 1, 1) := dt_Ref_clear 130
theorem d_Ref_clear_215 : decode (jm_cod M_Ref_clear) 215 = .ok (.iload_n 1, 1) := dt_Ref_clear 131
theorem d_Ref_clear_216 : decode (jm_cod M_Ref_clear) 216 = .ok (.iconst 4, 1) := dt_Ref_clear 132
theorem d_Ref_clear_217 : decode (jm_cod M_Ref_clear) 217 = .ok (.if_icmp .ge 85, 3) := dt_Ref_clear 133
theorem d_Ref_clear_220 : decode (jm_cod M_Ref_clear) 220 = .ok (.aload_n 0, 1) := dt_Ref_clear 134
theorem d_Ref_clear_221 : decode (jm_cod M_Ref_clear) 221 = .ok (.getfield 19, 3) := dt_Ref_clear 135
theorem d_Ref_clear_224 : decode (jm_cod M_Ref_clear) 224 = .ok (.iload_n 1, 1) := dt_Ref_clear 136
theorem d_Ref_clear_225 : decode (jm_cod M_Ref_clear) 225 = .ok (.iconst 0, 1) := dt_Ref_clear 137
theorem d_Ref_clear_226 : decode (jm_cod M_Ref_clear) 226 = .ok (.bastore, 1) := dt_Ref_clear 138
theorem d_Ref_clear_227 : decode (jm_cod M_Ref_clear) 227 = .ok (.aload_n 0, 1) := dt_Ref_clear 139
theorem d_Ref_clear_228 : decode (jm_cod M_Ref_clear) 228 = .ok (.getfield 23, 3) := dt_Ref_clear 140
theorem d_Ref_clear_231 : decode (jm_cod M_Ref_clear) 231 = .ok (.iload_n 1, 1) := dt_Ref_clear 141
theorem d_Ref_clear_232 : decode (jm_cod M_Ref_clear) 232 = .ok (.iconst 0, 1) := dt_Ref_clear 142
theorem d_Ref_clear_233 : decode (jm_cod M_Ref_clear) 233 = .ok (.iastore, 1) := dt_Ref_clear 143
theorem d_Ref_clear_234 : decode (jm_cod M_Ref_clear) 234 = .ok (.aload_n 0, 1) := dt_Ref_clear 144
theorem d_Ref_clear_235 : decode (jm_cod M_Ref_clear) 235 = .ok (.getfield 26, 3) := dt_Ref_clear 145
theorem d_Ref_clear_238 : decode (jm_cod M_Ref_clear) 238 = .ok (.iload_n 1, 1) := dt_Ref_clear 146
theorem d_Ref_clear_239 : decode (jm_cod M_Ref_clear) 239 = .ok (.iconst 0, 1) := dt_Ref_clear 147
theorem d_Ref_clear_240 : decode (jm_cod M_Ref_clear) 240 = .ok (.iastore, 1) := dt_Ref_clear 148
theorem d_Ref_clear_241 : decode (jm_cod M_Ref_clear) 241 = .ok (.aload_n 0, 1) := dt_Ref_clear 149
theorem d_Ref_clear_242 : decode (jm_cod M_Ref_clear) 242 = .ok (.getfield 145, 3) := dt_Ref_clear 150
theorem d_Ref_clear_245 : decode (jm_cod M_Ref_clear) 245 = .ok (.iload_n 1, 1) := dt_Ref_clear 151
theorem d_Ref_clear_246 : decode (jm_cod M_Ref_clear) 246 = .ok (.aload_n 0, 1) := dt_Ref_clear 152
theorem d_Ref_clear_247 : decode (jm_cod M_Ref_clear) 247 = .ok (.getfield 294, 3) := dt_Ref_clear 153
theorem d_Ref_clear_250 : decode (jm_cod M_Ref_clear) 250 = .ok (.iastore, 1) := dt_Ref_clear 154
theorem d_Ref_clear_251 : decode (jm_cod M_Ref_clear) 251 = .ok (.aload_n 0, 1) := dt_Ref_clear 155
theorem d_Ref_clear_252 : decode (jm_cod M_Ref_clear) 252 = .ok (.getfield 148, 3) := dt_Ref_clear 156
theorem d_Ref_clear_255 : decode (jm_cod M_Ref_clear) 255 = .ok (.iload_n 1, 1) := dt_Ref_clear 157
theorem d_Ref_clear_256 : decode (jm_cod M_Ref_clear) 256 = .ok (.aload_n 0, 1) := dt_Ref_clear 158
theorem d_Ref_clear_257 : decode (jm_cod M_Ref_clear) 257 = .ok (.getfield 294, 3) := dt_Ref_clear 159
theorem d_Ref_clear_260 : decode (jm_cod M_Ref_clear) 260 = .ok (.iastore, 1) := dt_Ref_clear 160
theorem d_Ref_clear_261 : decode (jm_cod M_Ref_clear) 261 = .ok (.aload_n 0, 1) := dt_Ref_clear 161
theorem d_Ref_clear_262 : decode (jm_cod M_Ref_clear) 262 = .ok (.getfield 151, 3) := dt_Ref_clear 162
theorem d_Ref_clear_265 : decode (jm_cod M_Ref_clear) 265 = .ok (.iload_n 1, 1) := dt_Ref_clear 163
theorem d_Ref_clear_266 : decode (jm_cod M_Ref_clear) 266 = .ok (.iconst 0, 1) := dt_Ref_clear 164
theorem d_Ref_clear_267 : decode (jm_cod M_Ref_clear) 267 = .ok (.bastore, 1) := dt_Ref_clear 165
theorem d_Ref_clear_268 : decode (jm_cod M_Ref_clear) 268 = .ok (.aload_n 0, 1) := dt_Ref_clear 166
theorem d_Ref_clear_269 : decode (jm_cod M_Ref_clear) 269 = .ok (.getfield 154, 3) := dt_Ref_clear 167
theorem d_Ref_clear_272 : decode (jm_cod M_Ref_clear) 272 = .ok (.iload_n 1, 1) := dt_Ref_clear 168
theorem d_Ref_clear_273 : decode (jm_cod M_Ref_clear) 273 = .ok (.iconst 0, 1) := dt_Ref_clear 169
theorem d_Ref_clear_274 : decode (jm_cod M_Ref_clear) 274 = .ok (.iastore, 1) := dt_Ref_clear 170
theorem d_Ref_clear_275 : decode (jm_cod M_Ref_clear) 275 = .ok (.aload_n 0, 1) := dt_Ref_clear 171
theorem d_Ref_clear_276 : decode (jm_cod M_Ref_clear) 276 = .ok (.getfield 181, 3) := dt_Ref_clear 172
theorem d_Ref_clear_279 : decode (jm_cod M_Ref_clear) 279 = .ok (.iload_n 1, 1) := dt_Ref_clear 173
theorem d_Ref_clear_280 : decode (jm_cod M_Ref_clear) 280 = .ok (.iconst 0, 1) := dt_Ref_clear 174
theorem d_Ref_clear_281 : decode (jm_cod M_Ref_clear) 281 = .ok (.iastore, 1) := dt_Ref_clear 175
theorem d_Ref_clear_282 : decode (jm_cod M_Ref_clear) 282 = .ok (.aload_n 0, 1) := dt_Ref_clear 176
theorem d_Ref_clear_283 : decode (jm_cod M_Ref_clear) 283 = .ok (.getfield 208, 3) := dt_Ref_clear 177
theorem d_Ref_clear_286 : decode (jm_cod M_Ref_clear) 286 = .ok (.iload_n 1, 1) := dt_Ref_clear 178
theorem d_Ref_clear_287 : decode (jm_cod M_Ref_clear) 287 = .ok (.iconst 0, 1) := dt_Ref_clear 179
theorem d_Ref_clear_288 : decode (jm_cod M_Ref_clear) 288 = .ok (.iastore, 1) := dt_Ref_clear 180
theorem d_Ref_clear_289 : decode (jm_cod M_Ref_clear) 289 = .ok (.aload_n 0, 1) := dt_Ref_clear 181
theorem d_Ref_clear_290 : decode (jm_cod M_Ref_clear) 290 = .ok (.getfield 211, 3) := dt_Ref_clear 182
theorem d_Ref_clear_293 : decode (jm_cod M_Ref_clear) 293 = .ok (.iload_n 1, 1) := dt_Ref_clear 183
theorem d_Ref_clear_294 : decode (jm_cod M_Ref_clear) 294 = .ok (.iconst (-1), 1) := dt_Ref_clear 184
theorem d_Ref_clear_295 : decode (jm_cod M_Ref_clear) 295 = .ok (.iastore, 1) := dt_Ref_clear 185
theorem d_Ref_clear_296 : decode (jm_cod M_Ref_clear) 296 = .ok (.iinc 1 1, 3) := dt_Ref_clear 186
theorem d_Ref_clear_299 : decode (jm_cod M_Ref_clear) 299 = .ok (.goto (-84), 3) := dt_Ref_clear 187
theorem d_Ref_clear_302 : decode (jm_cod M_Ref_clear) 302 = .ok (.iconst 0, 1) := dt_Ref_clear 188
theorem d_Ref_clear_303 : decode (jm_cod M_Ref_clear) 303 = .ok (.istore_n 1, 1) := dt_Ref_clear 189
theorem d_Ref_clear_304 : decode (jm_cod M_Ref_clear) 304 = .ok (.iload_n 1, 1) := dt_Ref_clear 190
theorem d_Ref_clear_305 : decode (jm_cod M_Ref_clear) 305 = .ok (.sipush 256, 3) := dt_Ref_clear 191
theorem d_Ref_clear_308 : decode (jm_cod M_Ref_clear) 308 = .ok (.if_icmp .ge 16, 3) := dt_Ref_clear 192
theorem d_Ref_clear_311 : decode (jm_cod M_Ref_clear) 311 = .ok (.aload_n 0, 1) := dt_Ref_clear 193
theorem d_Ref_clear_312 : decode (jm_cod M_Ref_clear) 312 = .ok (.getfield 220, 3) := dt_Ref_clear 194
theorem d_Ref_clear_315 : decode (jm_cod M_Ref_clear) 315 = .ok (.iload_n 1, 1) := dt_Ref_clear 195
theorem d_Ref_clear_316 : decode (jm_cod M_Ref_clear) 316 = .ok (.iconst (-1), 1) := dt_Ref_clear 196
theorem d_Ref_clear_317 : decode (jm_cod M_Ref_clear) 317 = .ok (.iastore, 1) := dt_Ref_clear 197
theorem d_Ref_clear_318 : decode (jm_cod M_Ref_clear) 318 = .ok (.iinc 1 1, 3) := dt_Ref_clear 198
theorem d_Ref_clear_321 : decode (jm_cod M_Ref_clear) 321 = .ok (.goto (-17), 3) := dt_Ref_clear 199
theorem d_Ref_clear_324 : decode (jm_cod M_Ref_clear) 324 = .ok (.iconst 0, 1) := dt_Ref_clear 200
theorem d_Ref_clear_325 : decode (jm_cod M_Ref_clear) 325 = .ok (.istore_n 1, 1) := dt_Ref_clear 201
theorem d_Ref_clear_326 : decode (jm_cod M_Ref_clear) 326 = .ok (.iload_n 1, 1) := dt_Ref_clear 202
theorem d_Ref_clear_327 : decode (jm_cod M_Ref_clear) 327 = .ok (.ldc 29, 2) := dt_Ref_clear 203
theorem d_Ref_clear_329 : decode (jm_cod M_Ref_clear) 329 = .ok (.if_icmp .ge 23, 3) := dt_Ref_clear 204
theorem d_Ref_clear_332 : decode (jm_cod M_Ref_clear) 332 = .ok (.aload_n 0, 1) := dt_Ref_clear 205
theorem d_Ref_clear_333 : decode (jm_cod M_Ref_clear) 333 = .ok (.getfield 30, 3) := dt_Ref_clear 206
theorem d_Ref_clear_336 : decode (jm_cod M_Ref_clear) 336 = .ok (.iload_n 1, 1) := dt_Ref_clear 207
theorem d_Ref_clear_337 : decode (jm_cod M_Ref_clear) 337 = .ok (.iconst 0, 1) := dt_Ref_clear 208
theorem d_Ref_clear_338 : decode (jm_cod M_Ref_clear) 338 = .ok (.iastore, 1) := dt_Ref_clear 209
theorem d_Ref_clear_339 : decode (jm_cod M_Ref_clear) 339 = .ok (.aload_n 0, 1) := dt_Ref_clear 210
theorem d_Ref_clear_340 : decode (jm_cod M_Ref_clear) 340 = .ok (.getfield 33, 3) := dt_Ref_clear 211
theorem d_Ref_clear_343 : decode (jm_cod M_Ref_clear) 343 = .ok (.iload_n 1, 1) := dt_Ref_clear 212
theorem d_Ref_clear_344 : decode (jm_cod M_Ref_clear) 344 = .ok (.iconst 0, 1) := dt_Ref_clear 213
theorem d_Ref_clear_345 : decode (jm_cod M_Ref_clear) 345 = .ok (.bastore, 1) := dt_Ref_clear 214
theorem d_Ref_clear_346 : decode (jm_cod M_Ref_clear) 346 = .ok (.iinc 1 1, 3) := dt_Ref_clear 215
theorem d_Ref_clear_349 : decode (jm_cod M_Ref_clear) 349 = .ok (.goto (-23), 3) := dt_Ref_clear 216
theorem d_Ref_clear_352 : decode (jm_cod M_Ref_clear) 352 = .ok (.iconst 0, 1) := dt_Ref_clear 217
theorem d_Ref_clear_353 : decode (jm_cod M_Ref_clear) 353 = .ok (.istore_n 1, 1) := dt_Ref_clear 218
theorem d_Ref_clear_354 : decode (jm_cod M_Ref_clear) 354 = .ok (.iload_n 1, 1) := dt_Ref_clear 219
theorem d_Ref_clear_355 : decode (jm_cod M_Ref_clear) 355 = .ok (.bipush 10, 2) := dt_Ref_clear 220
theorem d_Ref_clear_357 : decode (jm_cod M_Ref_clear) 357 = .ok (.if_icmp .ge 14, 3) := dt_Ref_clear 221
theorem d_Ref_clear_360 : decode (jm_cod M_Ref_clear) 360 = .ok (.aload_n 0, 1) := dt_Ref_clear 222
theorem d_Ref_clear_361 : decode (jm_cod M_Ref_clear) 361 = .ok (.iload_n 1, 1) := dt_Ref_clear 223
theorem d_Ref_clear_362 : decode (jm_cod M_Ref_clear) 362 = .ok (.invokevirtual 647, 3) := dt_Ref_clear 224
theorem d_Ref_clear_365 : decode (jm_cod M_Ref_clear) 365 = .ok (.iinc 1 1, 3) := dt_Ref_clear 225
theorem d_Ref_clear_368 : decode (jm_cod M_Ref_clear) 368 = .ok (.goto (-14), 3) := dt_Ref_clear 226
theorem d_Ref_clear_371 : decode (jm_cod M_Ref_clear) 371 = .ok (.aload_n 0, 1) := dt_Ref_clear 227
theorem d_Ref_clear_372 : decode (jm_cod M_Ref_clear) 372 = .ok (.iconst 0, 1) := dt_Ref_clear 228
theorem d_Ref_clear_373 : decode (jm_cod M_Ref_clear) 373 = .ok (.invokevirtual 642, 3) := dt_Ref_clear 229
theorem d_Ref_clear_376 : decode (jm_cod M_Ref_clear) 376 = .ok (.aload_n 0, 1) := dt_Ref_clear 230
theorem d_Ref_clear_377 : decode (jm_cod M_Ref_clear) 377 = .ok (.iconst 1, 1) := dt_Ref_clear 231
theorem d_Ref_clear_378 : decode (jm_cod M_Ref_clear) 378 = .ok (.invokevirtual 642, 3) := dt_Ref_clear 232
theorem d_Ref_clear_381 : decode (jm_cod M_Ref_clear) 381 = .ok (.return_, 1) := dt_Ref_clear 233
def tab_Ref_show : List (Nat × Instr × Nat) := [(0, .aload_n 0, 1), (1, .getfield 88, 3), (4, .iload_n 1, 1), (5, .iload_n 2, 1), (6, .bastore, 1), (7, .aload_n 0, 1), (8, .getfield 94, 3), (11, .iload_n 1, 1), (12, .iload_n 2, 1), (13, .ifCond .eq 7, 3), (16, .lload_n 3, 1), (17, .goto 4, 3), (20, .lconst 0, 1), (21, .lastore, 1), (22, .aload_n 0, 1), (23, .getfield 97, 3), (26, .iload_n 1, 1), (27, .iload_n 2, 1), (28, .ifCond .eq 8, 3), (31, .iload 5, 2), (33, .goto 4, 3), (36, .iconst 0, 1), (37, .iastore, 1), (38, .return_, 1)]
theorem dt_Ref_show (i : Nat) : decode (jm_cod M_Ref_show) (tab_Ref_show.getD i (0, .aload_n 0, 1)).1 = .ok ((tab_Ref_show.getD i (0, .aload_n 0, 1)).2.1, (tab_Ref_show.getD i (0, .aload_n 0, 1)).2.2) := j_tab (by decide +kernel) i
theorem d_Ref_show_0 : decode (jm_cod M_Ref_show) 0 = .ok (.aload_n 0, 1) := dt_Ref_show 0
theorem d_Ref_show_1 : decode (jm_cod M_Ref_show) 1 = .ok (.getfield 88, 3) := dt_Ref_show 1
theorem d_Ref_show_4 : decode (jm_cod M_Ref_show) 4 = .ok (.iload_n 1, 1) := dt_Ref_show 2
theorem d_Ref_show_5 : decode (jm_cod M_Ref_show) 5 = .ok (.iload_n 2, 1) := dt_Ref_show 3
theorem d_Ref_show_6 : decode (jm_cod M_Ref_show) 6 = .ok (.bastore, 1) := dt_Ref_show 4
theorem d_Ref_show_7 : decode (jm_cod M_Ref_show) 7 = .ok (.aload_n 0, 1) := dt_Ref_show 5
theorem d_Ref_show_8 : decode (jm_cod M_Ref_show) 8 = .ok (.getfield 94, 3) := dt_Ref_show 6
theorem d_Ref_show_11 : decode (jm_cod M_Ref_show) 11 = .ok (.iload_n 1, 1) := dt_Ref_show 7
theorem d_Ref_show_12 : decode (jm_cod M_Ref_show) 12 = .ok (.iload_n 2, 1) := dt_Ref_show 8
theorem d_Ref_show_13 : decode (jm_cod M_Ref_show) 13 = .ok (.ifCond .eq 7, 3) := dt_Ref_show 9
theorem d_Ref_show_16 : decode (jm_cod M_Ref_show) 16 = .ok (.lload_n 3, 1) := dt_Ref_show 10
theorem d_Ref_show_17 : decode (jm_cod M_Ref_show) 17 = .ok (.goto 4, 3) := dt_Ref_show 11
theorem d_Ref_show_20 : decode (jm_cod M_Ref_show) 20 = .ok (.lconst 0, 1) := dt_Ref_show 12
theorem d_Ref_show_21 : decode (jm_cod M_Ref_show) 21 = .ok (.lastore, 1) := dt_Ref_show 13
theorem d_Ref_show_22 : decode (jm_cod M_Ref_show) 22 = .ok (.aload_n 0, 1) := dt_Ref_show 14
theorem d_Ref_show_23 : decode (jm_cod M_Ref_show) 23 = .ok (.getfield 97, 3) := dt_Ref_show 15
theorem d_Ref_show_26 : decode (jm_cod M_Ref_show) 26 = .ok (.iload_n 1, 1) := dt_Ref_show 16
theorem d_Ref_show_27 : decode (jm_cod M_Ref_show) 27 = .ok (.iload_n 2, 1) := dt_Ref_show 17
theorem d_Ref_show_28 : decode (jm_cod M_Ref_show) 28 = .ok (.ifCond .eq 8, 3) := dt_Ref_show 18
theorem d_Ref_show_31 : decode (jm_cod M_Ref_show) 31 = .ok (.iload 5, 2) := dt_Ref_show 19
theorem d_Ref_show_33 : decode (jm_cod M_Ref_show) 33 = .ok (.goto 4, 3) := dt_Ref_show 20
theorem d_Ref_show_36 : decode (jm_cod M_Ref_show) 36 = .ok (.iconst 0, 1) := dt_Ref_show 21
theorem d_Ref_show_37 : decode (jm_cod M_Ref_show) 37 = .ok (.iastore, 1) := dt_Ref_show 22
theorem d_Ref_show_38 : decode (jm_cod M_Ref_show) 38 = .ok (.return_, 1) := dt_Ref_show 23
def tab_Ref_beginMonitor : List (Nat × Instr × Nat) := [(0, .aload_n 0, 1), (1, .getfield 235, 3), (4, .iload_n 1, 1), (5, .iconst 0, 1), (6, .iastore, 1), (7, .aload_n 0, 1), (8, .getfield 238, 3), (11, .iload_n 1, 1), (12, .iconst 0, 1), (13, .iastore, 1), (14, .aload_n 0, 1), (15, .getfield 241, 3), (18, .iload_n 1, 1), (19, .iconst (-1), 1), (20, .iastore, 1), (21, .aload_n 0, 1), (22, .getfield 244, 3), (25, .iload_n 1, 1), (26, .iconst (-1), 1), (27, .iastore, 1), (28, .aload_n 0, 1), (29, .getfield 247, 3), (32, .iload_n 1, 1), (33, .iconst 0, 1), (34, .iastore, 1), (35, .aload_n 0, 1), (36, .getfield 250, 3), (39, .iload_n 1, 1), (40, .iconst 0, 1), (41, .iastore, 1), (42, .iconst 0, 1), (43, .istore_n 2, 1), (44, .iload_n 2, 1), (45, .iconst 5, 1), (46, .if_icmp .ge 20, 3), (49, .aload_n 0, 1), (50, .getfield 226, 3), (53, .iconst 5, 1), (54, .iload_n 1, 1), (55, .imul, 1), (56, .iload_n 2, 1), (57, .iadd, 1), (58, .iconst 0, 1), (59, .bastore, 1), (60, .iinc 2 1, 3), (63, .goto (-19), 3), (66, .return_, 1)]
theorem dt_Ref_beginMonitor (i : Nat) : decode (jm_cod M_Ref_beginMonitor) (tab_Ref_beginMonitor.getD i (0, .aload_n 0, 1)).1 = .ok ((tab_Ref_beginMonitor.getD i (0, .aload_n 0, 1)).2.1, (tab_Ref_beginMonitor.getD i (0, .aload_n 0, 1)).2.2) := j_tab (by decide +kernel) i
theorem d_Ref_beginMonitor_0 : decode (jm_cod M_Ref_beginMonitor) 0 = .ok (.aload_n 0, 1) := dt_Ref_beginMonitor 0
theorem d_Ref_beginMonitor_1 : decode (jm_cod M_Ref_beginMonitor) 1 = .ok (.getfield 235, 3) := dt_Ref_beginMonitor 1
theorem d_Ref_beginMonitor_4 : decode (jm_cod M_Ref_beginMonitor) 4 = .ok (.iload_n 1, 1) := dt_Ref_beginMonitor 2
theorem d_Ref_beginMonitor_5 : decode (jm_cod M_Ref_beginMonitor) 5 = .ok (.iconst 0, 1) := dt_Ref_beginMonitor 3
theorem d_Ref_beginMonitor_6 : decode (jm_cod M_Ref_beginMonitor) 6 = .ok (.iastore, 1) := dt_Ref_beginMonitor 4
theorem d_Ref_beginMonitor_7 : decode (jm_cod M_Ref_beginMonitor) 7 = .ok (.aload_n 0, 1) := dt_Ref_beginMonitor 5
theorem d_Ref_beginMonitor_8 : decode (jm_cod M_Ref_beginMonitor) 8 = .ok (.getfield 238, 3) := dt_Ref_beginMonitor 6
theorem d_Ref_beginMonitor_11 : decode (jm_cod M_Ref_beginMonitor) 11 = .ok (.iload_n 1, 1) := dt_Ref_beginMonitor 7
theorem d_Ref_beginMonitor_12 : decode (jm_cod M_Ref_beginMonitor) 12 = .ok (.iconst 0, 1) := dt_Ref_beginMonitor 8
theorem d_Ref_beginMonitor_13 : decode (jm_cod M_Ref_beginMonitor) 13 = .ok (.iastore, 1) := dt_Ref_beginMonitor 9
theorem d_Ref_beginMonitor_14 : decode (jm_cod M_Ref_beginMonitor) 14 = .ok (.aload_n 0, 1) := dt_Ref_beginMonitor 10
theorem d_Ref_beginMonitor_15 : decode (jm_cod M_Ref_beginMonitor) 15 = .ok (.getfield 241, 3) := dt_Ref_beginMonitor 11
theorem d_Ref_beginMonitor_18 : decode (jm_cod M_Ref_beginMonitor) 18 = .ok (.iload_n 1, 1) := dt_Ref_beginMonitor 12
theorem d_Ref_beginMonitor_19 : decode (jm_cod M_Ref_beginMonitor) 19 = .ok (.iconst (-1), 1) := dt_Ref_beginMonitor 13
theorem d_Ref_beginMonitor_20 : decode (jm_cod M_Ref_beginMonitor) 20 = .ok (.iastore, 1) := dt_Ref_beginMonitor 14
theorem d_Ref_beginMonitor_21 : decode (jm_cod M_Ref_beginMonitor) 21 = .ok (.aload_n 0, 1) := dt_Ref_beginMonitor 15
theorem d_Ref_beginMonitor_22 : decode (jm_cod M_Ref_beginMonitor) 22 = .ok (.getfield 244, 3) := dt_Ref_beginMonitor 16
theorem d_Ref_beginMonitor_25 : decode (jm_cod M_Ref_beginMonitor) 25 = .ok (.iload_n 1, 1) := dt_Ref_beginMonitor 17
theorem d_Ref_beginMonitor_26 : decode (jm_cod M_Ref_beginMonitor) 26 = .ok (.iconst (-1), 1) := dt_Ref_beginMonitor 18
theorem d_Ref_beginMonitor_27 : decode (jm_cod M_Ref_beginMonitor) 27 = .ok (.iastore, 1) := dt_Ref_beginMonitor 19
theorem d_Ref_beginMonitor_28 : decode (jm_cod M_Ref_beginMonitor) 28 = .ok (.aload_n 0, 1) := dt_Ref_beginMonitor 20
theorem d_Ref_beginMonitor_29 : decode (jm_cod M_Ref_beginMonitor) 29 = .ok (.getfield 247, 3) := dt_Ref_beginMonitor 21
theorem d_Ref_beginMonitor_32 : decode (jm_cod M_Ref_beginMonitor) 32 = .ok (.iload_n 1, 1) := dt_Ref_beginMonitor 22
theorem d_Ref_beginMonitor_33 : decode (jm_cod M_Ref_beginMonitor) 33 = .ok (.iconst 0, 1) := dt_Ref_beginMonitor 23
theorem d_Ref_beginMonitor_34 : decode (jm_cod M_Ref_beginMonitor) 34 = .ok (.iastore, 1) := dt_Ref_beginMonitor 24
theorem d_Ref_beginMonitor_35 : decode (jm_cod M_Ref_beginMonitor) 35 = .ok (.aload_n 0, 1) := dt_Ref_beginMonitor 25
theorem d_Ref_beginMonitor_36 : decode (jm_cod M_Ref_beginMonitor) 36 = .ok (.getfield 250, 3) := dt_Ref_beginMonitor 26
theorem d_Ref_beginMonitor_39 : decode (jm_cod M_Ref_beginMonitor) 39 = .ok (.iload_n 1, 1) := dt_Ref_beginMonitor 27
theorem d_Ref_beginMonitor_40 : decode (jm_cod M_Ref_beginMonitor) 40 = .ok (.iconst 0, 1) := dt_Ref_beginMonitor 28
theorem d_Ref_beginMonitor_41 : decode (jm_cod M_Ref_beginMonitor) 41 = .ok (.iastore, 1) := dt_Ref_beginMonitor 29
theorem d_Ref_beginMonitor_42 : decode (jm_cod M_Ref_beginMonitor) 42 = .ok (.iconst 0, 1) := dt_Ref_beginMonitor 30
theorem d_Ref_beginMonitor_43 : decode (jm_cod M_Ref_beginMonitor) 43 = .ok (.istore_n 2, 1) := dt_Ref_beginMonitor 31
theorem d_Ref_beginMonitor_44 : decode (jm_cod M_Ref_beginMonitor) 44 = .ok (.iload_n 2, 1) := dt_Ref_beginMonitor 32
theorem d_Ref_beginMonitor_45 : decode (jm_cod M_Ref_beginMonitor) 45 = .ok (.iconst 5, 1) := dt_Ref_beginMonitor 33
theorem d_Ref_beginMonitor_46 : decode (jm_cod M_Ref_beginMonitor) 46 = .ok (.if_icmp .ge 20, 3) := dt_Ref_beginMonitor 34
theorem d_Ref_beginMonitor_49 : decode (jm_cod M_Ref_beginMonitor) 49 = .ok (.aload_n 0, 1) := dt_Ref_beginMonitor 35
theorem d_Ref_beginMonitor_50 : decode (jm_cod M_Ref_beginMonitor) 50 = .ok (.getfield 226, 3) := dt_Ref_beginMonitor 36
theorem d_Ref_beginMonitor_53 : decode (jm_cod M_Ref_beginMonitor) 53 = .ok (.iconst 5, 1) := dt_Ref_beginMonitor 37
theorem d_Ref_beginMonitor_54 : decode (jm_cod M_Ref_beginMonitor) 54 = .ok (.iload_n 1, 1) := dt_Ref_beginMonitor 38
theorem d_Ref_beginMonitor_55 : decode (jm_cod M_Ref_beginMonitor) 55 = .ok (.imul, 1) := dt_Ref_beginMonitor 39
theorem d_Ref_beginMonitor_56 : decode (jm_cod M_Ref_beginMonitor) 56 = .ok (.iload_n 2, 1) := dt_Ref_beginMonitor 40
theorem d_Ref_beginMonitor_57 : decode (jm_cod M_Ref_beginMonitor) 57 = .ok (.iadd, 1) := dt_Ref_beginMonitor 41
theorem d_Ref_beginMonitor_58 : decode (jm_cod M_Ref_beginMonitor) 58 = .ok (.iconst 0, 1) := dt_Ref_beginMonitor 42
theorem d_Ref_beginMonitor_59 : decode (jm_cod M_Ref_beginMonitor) 59 = .ok (.bastore, 1) := dt_Ref_beginMonitor 43
theorem d_Ref_beginMonitor_60 : decode (jm_cod M_Ref_beginMonitor) 60 = .ok (.iinc 2 1, 3) := dt_Ref_beginMonitor 44
theorem d_Ref_beginMonitor_63 : decode (jm_cod M_Ref_beginMonitor) 63 = .ok (.goto (-19), 3) := dt_Ref_beginMonitor 45
theorem d_Ref_beginMonitor_66 : decode (jm_cod M_Ref_beginMonitor) 66 = .ok (.return_, 1) := dt_Ref_beginMonitor 46
def tab_Ref_blank : List (Nat × Instr × Nat) := [(0, .iconst 5, 1), (1, .iload_n 1, 1), (2, .imul, 1), (3, .istore_n 2, 1), (4, .iload_n 2, 1), (5, .iconst 5, 1), (6, .iload_n 1, 1), (7, .imul, 1), (8, .iconst 5, 1), (9, .iadd, 1), (10, .if_icmp .ge 37, 3), (13, .aload_n 0, 1), (14, .getfield 274, 3), (17, .iload_n 2, 1), (18, .iconst 0, 1), (19, .bastore, 1), (20, .aload_n 0, 1), (21, .getfield 277, 3), (24, .iload_n 2, 1), (25, .iconst 0, 1), (26, .bastore, 1), (27, .aload_n 0, 1), (28, .getfield 280, 3), (31, .iload_n 2, 1), (32, .lconst 0, 1), (33, .lastore, 1), (34, .aload_n 0, 1), (35, .getfield 283, 3), (38, .iload_n 2, 1), (39, .iconst 0, 1), (40, .iastore, 1), (41, .iinc 2 1, 3), (44, .goto (-40), 3), (47, .return_, 1)]
theorem dt_Ref_blank (i : Nat) : decode (jm_cod M_Ref_blank) (tab_Ref_blank.getD i (0, .iconst 5, 1)).1 = .ok ((tab_Ref_blank.getD i (0, .iconst 5, 1)).2.1, (tab_Ref_blank.getD i (0, .iconst 5, 1)).2.2) := j_tab (by decide +kernel) i
theorem d_Ref_blank_0 : decode (jm_cod M_Ref_blank) 0 = .ok (.iconst 5, 1) := dt_Ref_blank 0
theorem d_Ref_blank_1 : decode (jm_cod M_Ref_blank) 1 = .ok (.iload_n 1, 1) := dt_Ref_blank 1
theorem d_Ref_blank_2 : decode (jm_cod M_Ref_blank) 2 = .ok (.imul, 1) := dt_Ref_blank 2
theorem d_Ref_blank_3 : decode (jm_cod M_Ref_blank) 3 = .ok (.istore_n 2, 1) := dt_Ref_blank 3
theorem d_Ref_blank_4 : decode (jm_cod M_Ref_blank) 4 = .ok (.iload_n 2, 1) := dt_Ref_blank 4
theorem d_Ref_blank_5 : decode (jm_cod M_Ref_blank) 5 = .ok (.iconst 5, 1) := dt_Ref_blank 5
theorem d_Ref_blank_6 : decode (jm_cod M_Ref_blank) 6 = .ok (.iload_n 1, 1) := dt_Ref_blank 6
theorem d_Ref_blank_7 : decode (jm_cod M_Ref_blank) 7 = .ok (.imul, 1) := dt_Ref_blank 7
theorem d_Ref_blank_8 : decode (jm_cod M_Ref_blank) 8 = .ok (.iconst 5, 1) := dt_Ref_blank 8
theorem d_Ref_blank_9 : decode (jm_cod M_Ref_blank) 9 = .ok (.iadd, 1) := dt_Ref_blank 9
theorem d_Ref_blank_10 : decode (jm_cod M_Ref_blank) 10 = .ok (.if_icmp .ge 37, 3) := dt_Ref_blank 10
theorem d_Ref_blank_13 : decode (jm_cod M_Ref_blank) 13 = .ok (.aload_n 0, 1) := dt_Ref_blank 11
theorem d_Ref_blank_14 : decode (jm_cod M_Ref_blank) 14 = .ok (.getfield 274, 3) := dt_Ref_blank 12
theorem d_Ref_blank_17 : decode (jm_cod M_Ref_blank) 17 = .ok (.iload_n 2, 1) := dt_Ref_blank 13
theorem d_Ref_blank_18 : decode (jm_cod M_Ref_blank) 18 = .ok (.iconst 0, 1) := dt_Ref_blank 14
theorem d_Ref_blank_19 : decode (jm_cod M_Ref_blank) 19 = .ok (.bastore, 1) := dt_Ref_blank 15
theorem d_Ref_blank_20 : decode (jm_cod M_Ref_blank) 20 = .ok (.aload_n 0, 1) := dt_Ref_blank 16
theorem d_Ref_blank_21 : decode (jm_cod M_Ref_blank) 21 = .ok (.getfield 277, 3) := dt_Ref_blank 17
theorem d_Ref_blank_24 : decode (jm_cod M_Ref_blank) 24 = .ok (.iload_n 2, 1) := dt_Ref_blank 18
theorem d_Ref_blank_25 : decode (jm_cod M_Ref_blank) 25 = .ok (.iconst 0, 1) := dt_Ref_blank 19
theorem d_Ref_blank_26 : decode (jm_cod M_Ref_blank) 26 = .ok (.bastore, 1) := dt_Ref_blank 20
theorem d_Ref_blank_27 : decode (jm_cod M_Ref_blank) 27 = .ok (.aload_n 0, 1) := dt_Ref_blank 21
theorem d_Ref_blank_28 : decode (jm_cod M_Ref_blank) 28 = .ok (.getfield 280, 3) := dt_Ref_blank 22
theorem d_Ref_blank_31 : decode (jm_cod M_Ref_blank) 31 = .ok (.iload_n 2, 1) := dt_Ref_blank 23
theorem d_Ref_blank_32 : decode (jm_cod M_Ref_blank) 32 = .ok (.lconst 0, 1) := dt_Ref_blank 24
theorem d_Ref_blank_33 : decode (jm_cod M_Ref_blank) 33 = .ok (.lastore, 1) := dt_Ref_blank 25
theorem d_Ref_blank_34 : decode (jm_cod M_Ref_blank) 34 = .ok (.aload_n 0, 1) := dt_Ref_blank 26
theorem d_Ref_blank_35 : decode (jm_cod M_Ref_blank) 35 = .ok (.getfield 283, 3) := dt_Ref_blank 27
theorem d_Ref_blank_38 : decode (jm_cod M_Ref_blank) 38 = .ok (.iload_n 2, 1) := dt_Ref_blank 28
theorem d_Ref_blank_39 : decode (jm_cod M_Ref_blank) 39 = .ok (.iconst 0, 1) := dt_Ref_blank 29
theorem d_Ref_blank_40 : decode (jm_cod M_Ref_blank) 40 = .ok (.iastore, 1) := dt_Ref_blank 30
theorem d_Ref_blank_41 : decode (jm_cod M_Ref_blank) 41 = .ok (.iinc 2 1, 3) := dt_Ref_blank 31
theorem d_Ref_blank_44 : decode (jm_cod M_Ref_blank) 44 = .ok (.goto (-40), 3) := dt_Ref_blank 32
theorem d_Ref_blank_47 : decode (jm_cod M_Ref_blank) 47 = .ok (.return_, 1) := dt_Ref_blank 33
def tab_Ref_thrown : List (Nat × Instr × Nat) := [(0, .aload_n 0, 1), (1, .getfield 303, 3), (4, .ireturn, 1)]
theorem dt_Ref_thrown (i : Nat) : decode (jm_cod M_Ref_thrown) (tab_Ref_thrown.getD i (0, .aload_n 0, 1)).1 = .ok ((tab_Ref_thrown.getD i (0, .aload_n 0, 1)).2.1, (tab_Ref_thrown.getD i (0, .aload_n 0, 1)).2.2) := j_tab (by decide +kernel) i
theorem d_Ref_thrown_0 : decode (jm_cod M_Ref_thrown) 0 = .ok (.aload_n 0, 1) := dt_Ref_thrown 0
theorem d_Ref_thrown_1 : decode (jm_cod M_Ref_thrown) 1 = .ok (.getfield 303, 3) := dt_Ref_thrown 1
theorem d_Ref_thrown_4 : decode (jm_cod M_Ref_thrown) 4 = .ok (.ireturn, 1) := dt_Ref_thrown 2
def tab_Ref_map : List (Nat × Instr × Nat) := [(0, .aload_n 0, 1), (1, .iload_n 1, 1), (2, .i2l, 1), (3, .lconst 0, 1), (4, .ldc2_w 310, 3), (7, .invokestatic 599, 3), (10, .ifCond .eq 21, 3), (13, .iload_n 2, 1), (14, .i2l, 1), (15, .ldc2_w 603, 3), (18, .aload_n 0, 1), (19, .getfield 294, 3), (22, .i2l, 1), (23, .lconst 1, 1), (24, .lsub, 1), (25, .invokestatic 599, 3), (28, .ifCond .ne 7, 3), (31, .iconst 1, 1), (32, .goto 15, 3), (35, .aload_n 0, 1), (36, .invokevirtual 605, 3), (39, .ifCond .le 7, 3), (42, .iconst 2, 1), (43, .goto 4, 3), (46, .iconst 0, 1), (47, .putfield 303, 3), (50, .aload_n 0, 1), (51, .getfield 303, 3), (54, .ifCond .le 5, 3), (57, .iconst 0, 1), (58, .ireturn, 1), (59, .aload_n 0, 1), (60, .getfield 7, 3), (63, .iload_n 1, 1), (64, .iaload, 1), (65, .istore_n 3, 1), (66, .aload_n 0, 1), (67, .getfield 7, 3), (70, .iload_n 1, 1), (71, .iload_n 2, 1), (72, .iastore, 1), (73, .iload_n 3, 1), (74, .ireturn, 1)]
theorem dt_Ref_map (i : Nat) : decode (jm_cod M_Ref_map) (tab_Ref_map.getD i (0, .aload_n 0, 1)).1 = .ok ((tab_Ref_map.getD i (0, .aload_n 0, 1)).2.1, (tab_Ref_map.getD i (0, .aload_n 0, 1)).2.2) := j_tab (by decide +kernel) i
theorem d_Ref_map_0 : decode (jm_cod M_Ref_map) 0 = .ok (.aload_n 0, 1) := dt_Ref_map 0
theorem d_Ref_map_1 : decode (jm_cod M_Ref_map) 1 = .ok (.iload_n 1, 1) := dt_Ref_map 1
theorem d_Ref_map_2 : decode (jm_cod M_Ref_map) 2 = .ok (.i2l, 1) := dt_Ref_map 2
theorem d_Ref_map_3 : decode (jm_cod M_Ref_map) 3 = .ok (.lconst 0, 1) := dt_Ref_map 3
theorem d_Ref_map_4 : decode (jm_cod M_Ref_map) 4 = .ok (.ldc2_w 310, 3) := dt_Ref_map 4
theorem d_Ref_map_7 : decode (jm_cod M_Ref_map) 7 = .ok (.invokestatic 599, 3) := dt_Ref_map 5
theorem d_Ref_map_10 : decode (jm_cod M_Ref_map) 10 = .ok (.ifCond .eq 21, 3) := dt_Ref_map 6
theorem d_Ref_map_13 : decode (jm_cod M_Ref_map) 13 = .ok (.iload_n 2, 1) := dt_Ref_map 7
theorem d_Ref_map_14 : decode (jm_cod M_Ref_map) 14 = .ok (.i2l, 1) := dt_Ref_map 8
theorem d_Ref_map_15 : decode (jm_cod M_Ref_map) 15 = .ok (.ldc2_w 603, 3) := dt_Ref_map 9
theorem d_Ref_map_18 : decode (jm_cod M_Ref_map) 18 = .ok (.aload_n 0, 1) := dt_Ref_map 10
theorem d_Ref_map_19 : decode (jm_cod M_Ref_map) 19 = .ok (.getfield 294, 3) := dt_Ref_map 11
theorem d_Ref_map_22 : decode (jm_cod M_Ref_map) 22 = .ok (.i2l, 1) := dt_Ref_map 12
theorem d_Ref_map_23 : decode (jm_cod M_Ref_map) 23 = .ok (.lconst 1, 1) := dt_Ref_map 13
theorem d_Ref_map_24 : decode (jm_cod M_Ref_map) 24 = .ok (.lsub, 1) := dt_Ref_map 14
theorem d_Ref_map_25 : decode (jm_cod M_Ref_map) 25 = .ok (.invokestatic 599, 3) := dt_Ref_map 15
theorem d_Ref_map_28 : decode (jm_cod M_Ref_map) 28 = .ok (.ifCond .ne 7, 3) := dt_Ref_map 16
theorem d_Ref_map_31 : decode (jm_cod M_Ref_map) 31 = .ok (.iconst 1, 1) := dt_Ref_map 17
theorem d_Ref_map_32 : decode (jm_cod M_Ref_map) 32 = .ok (.goto 15, 3) := dt_Ref_map 18
theorem d_Ref_map_35 : decode (jm_cod M_Ref_map) 35 = .ok (.aload_n 0, 1) := dt_Ref_map 19
theorem d_Ref_map_36 : decode (jm_cod M_Ref_map) 36 = .ok (.invokevirtual 605, 3) := dt_Ref_map 20
theorem d_Ref_map_39 : decode (jm_cod M_Ref_map) 39 = .ok (.ifCond .le 7, 3) := dt_Ref_map 21
theorem d_Ref_map_42 : decode (jm_cod M_Ref_map) 42 = .ok (.iconst 2, 1) := dt_Ref_map 22
theorem d_Ref_map_43 : decode (jm_cod M_Ref_map) 43 = .ok (.goto 4, 3) := dt_Ref_map 23
theorem d_Ref_map_46 : decode (jm_cod M_Ref_map) 46 = .ok (.iconst 0, 1) := dt_Ref_map 24
theorem d_Ref_map_47 : decode (jm_cod M_Ref_map) 47 = .ok (.putfield 303, 3) := dt_Ref_map 25
theorem d_Ref_map_50 : decode (jm_cod M_Ref_map) 50 = .ok (.aload_n 0, 1) := dt_Ref_map 26
theorem d_Ref_map_51 : decode (jm_cod M_Ref_map) 51 = .ok (.getfield 303, 3) := dt_Ref_map 27
theorem d_Ref_map_54 : decode (jm_cod M_Ref_map) 54 = .ok (.ifCond .le 5, 3) := dt_Ref_map 28
theorem d_Ref_map_57 : decode (jm_cod M_Ref_map) 57 = .ok (.iconst 0, 1) := dt_Ref_map 29
theorem d_Ref_map_58 : decode (jm_cod M_Ref_map) 58 = .ok (.ireturn, 1) := dt_Ref_map 30
theorem d_Ref_map_59 : decode (jm_cod M_Ref_map) 59 = .ok (.aload_n 0, 1) := dt_Ref_map 31
theorem d_Ref_map_60 : decode (jm_cod M_Ref_map) 60 = .ok (.getfield 7, 3) := dt_Ref_map 32
theorem d_Ref_map_63 : decode (jm_cod M_Ref_map) 63 = .ok (.iload_n 1, 1) := dt_Ref_map 33
theorem d_Ref_map_64 : decode (jm_cod M_Ref_map) 64 = .ok (.iaload, 1) := dt_Ref_map 34
theorem d_Ref_map_65 : decode (jm_cod M_Ref_map) 65 = .ok (.istore_n 3, 1) := dt_Ref_map 35
theorem d_Ref_map_66 : decode (jm_cod M_Ref_map) 66 = .ok (.aload_n 0, 1) := dt_Ref_map 36
theorem d_Ref_map_67 : decode (jm_cod M_Ref_map) 67 = .ok (.getfield 7, 3) := dt_Ref_map 37
theorem d_Ref_map_70 : decode (jm_cod M_Ref_map) 70 = .ok (.iload_n 1, 1) := dt_Ref_map 38
theorem d_Ref_map_71 : decode (jm_cod M_Ref_map) 71 = .ok (.iload_n 2, 1) := dt_Ref_map 39
theorem d_Ref_map_72 : decode (jm_cod M_Ref_map) 72 = .ok (.iastore, 1) := dt_Ref_map 40
theorem d_Ref_map_73 : decode (jm_cod M_Ref_map) 73 = .ok (.iload_n 3, 1) := dt_Ref_map 41
theorem d_Ref_map_74 : decode (jm_cod M_Ref_map) 74 = .ok (.ireturn, 1) := dt_Ref_map 42
def tab_Ref_in : List (Nat × Instr × Nat) := [(0, .lload_n 0, 1), (1, .lload_n 2, 1), (2, .lcmp, 1), (3, .ifCond .lt 14, 3), (6, .lload_n 0, 1), (7, .lload 4, 2), (9, .lcmp, 1), (10, .ifCond .gt 7, 3), (13, .iconst 1, 1), (14, .goto 4, 3), (17, .iconst 0, 1), (18, .ireturn, 1)]
theorem dt_Ref_in (i : Nat) : decode (jm_cod M_Ref_in) (tab_Ref_in.getD i (0, .lload_n 0, 1)).1 = .ok ((tab_Ref_in.getD i (0, .lload_n 0, 1)).2.1, (tab_Ref_in.getD i (0, .lload_n 0, 1)).2.2) := j_tab (by decide +kernel) i
theorem d_Ref_in_0 : decode (jm_cod M_Ref_in) 0 = .ok (.lload_n 0, 1) := dt_Ref_in 0
theorem d_Ref_in_1 : decode (jm_cod M_Ref_in) 1 = .ok (.lload_n 2, 1) := dt_Ref_in 1
theorem d_Ref_in_2 : decode (jm_cod M_Ref_in) 2 = .ok (.lcmp, 1) := dt_Ref_in 2
theorem d_Ref_in_3 : decode (jm_cod M_Ref_in) 3 = .ok (.ifCond .lt 14, 3) := dt_Ref_in 3
theorem d_Ref_in_6 : decode (jm_cod M_Ref_in) 6 = .ok (.lload_n 0, 1) := dt_Ref_in 4
theorem d_Ref_in_7 : decode (jm_cod M_Ref_in) 7 = .ok (.lload 4, 2) := dt_Ref_in 5
theorem d_Ref_in_9 : decode (jm_cod M_Ref_in) 9 = .ok (.lcmp, 1) := dt_Ref_in 6
theorem d_Ref_in_10 : decode (jm_cod M_Ref_in) 10 = .ok (.ifCond .gt 7, 3) := dt_Ref_in 7
theorem d_Ref_in_13 : decode (jm_cod M_Ref_in) 13 = .ok (.iconst 1, 1) := dt_Ref_in 8
theorem d_Ref_in_14 : decode (jm_cod M_Ref_in) 14 = .ok (.goto 4, 3) := dt_Ref_in 9
theorem d_Ref_in_17 : decode (jm_cod M_Ref_in) 17 = .ok (.iconst 0, 1) := dt_Ref_in 10
theorem d_Ref_in_18 : decode (jm_cod M_Ref_in) 18 = .ok (.ireturn, 1) := dt_Ref_in 11
def tab_Ref_open : List (Nat × Instr × Nat) := [(0, .iconst 0, 1), (1, .istore_n 1, 1), (2, .iconst 0, 1), (3, .istore_n 2, 1), (4, .iload_n 2, 1), (5, .aload_n 0, 1), (6, .getfield 337, 3), (9, .if_icmp .ge 27, 3), (12, .iload_n 1, 1), (13, .aload_n 0, 1), (14, .getfield 76, 3), (17, .iload_n 2, 1), (18, .iaload, 1), (19, .iconst (-1), 1), (20, .if_icmp .ne 7, 3), (23, .iconst 1, 1), (24, .goto 4, 3), (27, .iconst 0, 1), (28, .iadd, 1), (29, .istore_n 1, 1), (30, .iinc 2 1, 3), (33, .goto (-29), 3), (36, .iload_n 1, 1), (37, .ireturn, 1)]
theorem dt_Ref_open (i : Nat) : decode (jm_cod M_Ref_open) (tab_Ref_open.getD i (0, .iconst 0, 1)).1 = .ok ((tab_Ref_open.getD i (0, .iconst 0, 1)).2.1, (tab_Ref_open.getD i (0, .iconst 0, 1)).2.2) := j_tab (by decide +kernel) i
theorem d_Ref_open_0 : decode (jm_cod M_Ref_open) 0 = .ok (.iconst 0, 1) := dt_Ref_open 0
theorem d_Ref_open_1 : decode (jm_cod M_Ref_open) 1 = .ok (.istore_n 1, 1) := dt_Ref_open 1
theorem d_Ref_open_2 : decode (jm_cod M_Ref_open) 2 = .ok (.iconst 0, 1) := dt_Ref_open 2
theorem d_Ref_open_3 : decode (jm_cod M_Ref_open) 3 = .ok (.istore_n 2, 1) := dt_Ref_open 3
theorem d_Ref_open_4 : decode (jm_cod M_Ref_open) 4 = .ok (.iload_n 2, 1) := dt_Ref_open 4
theorem d_Ref_open_5 : decode (jm_cod M_Ref_open) 5 = .ok (.aload_n 0, 1) := dt_Ref_open 5
theorem d_Ref_open_6 : decode (jm_cod M_Ref_open) 6 = .ok (.getfield 337, 3) := dt_Ref_open 6
theorem d_Ref_open_9 : decode (jm_cod M_Ref_open) 9 = .ok (.if_icmp .ge 27, 3) := dt_Ref_open 7
theorem d_Ref_open_12 : decode (jm_cod M_Ref_open) 12 = .ok (.iload_n 1, 1) := dt_Ref_open 8
theorem d_Ref_open_13 : decode (jm_cod M_Ref_open) 13 = .ok (.aload_n 0, 1) := dt_Ref_open 9
theorem d_Ref_open_14 : decode (jm_cod M_Ref_open) 14 = .ok (.getfield 76, 3) := dt_Ref_open 10
theorem d_Ref_open_17 : decode (jm_cod M_Ref_open) 17 = .ok (.iload_n 2, 1) := dt_Ref_open 11
theorem d_Ref_open_18 : decode (jm_cod M_Ref_open) 18 = .ok (.iaload, 1) := dt_Ref_open 12
theorem d_Ref_open_19 : decode (jm_cod M_Ref_open) 19 = .ok (.iconst (-1), 1) := dt_Ref_open 13
theorem d_Ref_open_20 : decode (jm_cod M_Ref_open) 20 = .ok (.if_icmp .ne 7, 3) := dt_Ref_open 14
theorem d_Ref_open_23 : decode (jm_cod M_Ref_open) 23 = .ok (.iconst 1, 1) := dt_Ref_open 15
theorem d_Ref_open_24 : decode (jm_cod M_Ref_open) 24 = .ok (.goto 4, 3) := dt_Ref_open 16
theorem d_Ref_open_27 : decode (jm_cod M_Ref_open) 27 = .ok (.iconst 0, 1) := dt_Ref_open 17
theorem d_Ref_open_28 : decode (jm_cod M_Ref_open) 28 = .ok (.iadd, 1) := dt_Ref_open 18
theorem d_Ref_open_29 : decode (jm_cod M_Ref_open) 29 = .ok (.istore_n 1, 1) := dt_Ref_open 19
theorem d_Ref_open_30 : decode (jm_cod M_Ref_open) 30 = .ok (.iinc 2 1, 3) := dt_Ref_open 20
theorem d_Ref_open_33 : decode (jm_cod M_Ref_open) 33 = .ok (.goto (-29), 3) := dt_Ref_open 21
theorem d_Ref_open_36 : decode (jm_cod M_Ref_open) 36 = .ok (.iload_n 1, 1) := dt_Ref_open 22
theorem d_Ref_open_37 : decode (jm_cod M_Ref_open) 37 = .ok (.ireturn, 1) := dt_Ref_open 23
def tab_Ref_policy : List (Nat × Instr × Nat) := [(0, .aload_n 0, 1), (1, .iload_n 1, 1), (2, .i2l, 1), (3, .lconst 0, 1), (4, .ldc2_w 312, 3), (7, .invokestatic 599, 3), (10, .ifCond .eq 7, 3), (13, .iconst 0, 1), (14, .goto 4, 3), (17, .iconst 1, 1), (18, .putfield 303, 3), (21, .aload_n 0, 1), (22, .getfield 303, 3), (25, .ifCond .le 5, 3), (28, .iconst 0, 1), (29, .ireturn, 1), (30, .aload_n 0, 1), (31, .getfield 532, 3), (34, .istore_n 3, 1), (35, .aload_n 0, 1), (36, .iload_n 1, 1), (37, .putfield 532, 3), (40, .aload_n 0, 1), (41, .iload_n 2, 1), (42, .putfield 559, 3), (45, .iload_n 3, 1), (46, .ireturn, 1)]
theorem dt_Ref_policy (i : Nat) : decode (jm_cod M_Ref_policy) (tab_Ref_policy.getD i (0, .aload_n 0, 1)).1 = .ok ((tab_Ref_policy.getD i (0, .aload_n 0, 1)).2.1, (tab_Ref_policy.getD i (0, .aload_n 0, 1)).2.2) := j_tab (by decide +kernel) i
theorem d_Ref_policy_0 : decode (jm_cod M_Ref_policy) 0 = .ok (.aload_n 0, 1) := dt_Ref_policy 0
theorem d_Ref_policy_1 : decode (jm_cod M_Ref_policy) 1 = .ok (.iload_n 1, 1) := dt_Ref_policy 1
theorem d_Ref_policy_2 : decode (jm_cod M_Ref_policy) 2 = .ok (.i2l, 1) := dt_Ref_policy 2
theorem d_Ref_policy_3 : decode (jm_cod M_Ref_policy) 3 = .ok (.lconst 0, 1) := dt_Ref_policy 3
theorem d_Ref_policy_4 : decode (jm_cod M_Ref_policy) 4 = .ok (.ldc2_w 312, 3) := dt_Ref_policy 4
theorem d_Ref_policy_7 : decode (jm_cod M_Ref_policy) 7 = .ok (.invokestatic 599, 3) := dt_Ref_policy 5
theorem d_Ref_policy_10 : decode (jm_cod M_Ref_policy) 10 = .ok (.ifCond .eq 7, 3) := dt_Ref_policy 6
theorem d_Ref_policy_13 : decode (jm_cod M_Ref_policy) 13 = .ok (.iconst 0, 1) := dt_Ref_policy 7
theorem d_Ref_policy_14 : decode (jm_cod M_Ref_policy) 14 = .ok (.goto 4, 3) := dt_Ref_policy 8
theorem d_Ref_policy_17 : decode (jm_cod M_Ref_policy) 17 = .ok (.iconst 1, 1) := dt_Ref_policy 9
theorem d_Ref_policy_18 : decode (jm_cod M_Ref_policy) 18 = .ok (.putfield 303, 3) := dt_Ref_policy 10
theorem d_Ref_policy_21 : decode (jm_cod M_Ref_policy) 21 = .ok (.aload_n 0, 1) := dt_Ref_policy 11
theorem d_Ref_policy_22 : decode (jm_cod M_Ref_policy) 22 = .ok (.getfield 303, 3) := dt_Ref_policy 12
theorem d_Ref_policy_25 : decode (jm_cod M_Ref_policy) 25 = .ok (.ifCond .le 5, 3) := dt_Ref_policy 13
theorem d_Ref_policy_28 : decode (jm_cod M_Ref_policy) 28 = .ok (.iconst 0, 1) := dt_Ref_policy 14
theorem d_Ref_policy_29 : decode (jm_cod M_Ref_policy) 29 = .ok (.ireturn, 1) := dt_Ref_policy 15
theorem d_Ref_policy_30 : decode (jm_cod M_Ref_policy) 30 = .ok (.aload_n 0, 1) := dt_Ref_policy 16
theorem d_Ref_policy_31 : decode (jm_cod M_Ref_policy) 31 = .ok (.getfield 532, 3) := dt_Ref_policy 17
theorem d_Ref_policy_34 : decode (jm_cod M_Ref_policy) 34 = .ok (.istore_n 3, 1) := dt_Ref_policy 18
theorem d_Ref_policy_35 : decode (jm_cod M_Ref_policy) 35 = .ok (.aload_n 0, 1) := dt_Ref_policy 19
theorem d_Ref_policy_36 : decode (jm_cod M_Ref_policy) 36 = .ok (.iload_n 1, 1) := dt_Ref_policy 20
theorem d_Ref_policy_37 : decode (jm_cod M_Ref_policy) 37 = .ok (.putfield 532, 3) := dt_Ref_policy 21
theorem d_Ref_policy_40 : decode (jm_cod M_Ref_policy) 40 = .ok (.aload_n 0, 1) := dt_Ref_policy 22
theorem d_Ref_policy_41 : decode (jm_cod M_Ref_policy) 41 = .ok (.iload_n 2, 1) := dt_Ref_policy 23
theorem d_Ref_policy_42 : decode (jm_cod M_Ref_policy) 42 = .ok (.putfield 559, 3) := dt_Ref_policy 24
theorem d_Ref_policy_45 : decode (jm_cod M_Ref_policy) 45 = .ok (.iload_n 3, 1) := dt_Ref_policy 25
theorem d_Ref_policy_46 : decode (jm_cod M_Ref_policy) 46 = .ok (.ireturn, 1) := dt_Ref_policy 26
def tab_Ref_master : List (Nat × Instr × Nat) := [(0, .aload_n 0, 1), (1, .iload_n 1, 1), (2, .i2l, 1), (3, .lconst 0, 1), (4, .aload_n 0, 1), (5, .getfield 290, 3), (8, .i2l, 1), (9, .lconst 1, 1), (10, .lsub, 1), (11, .invokestatic 599, 3), (14, .ifCond .eq 19, 3), (17, .iload_n 2, 1), (18, .i2l, 1), (19, .lconst 0, 1), (20, .ldc2_w 609, 3), (23, .invokestatic 599, 3), (26, .ifCond .eq 7, 3), (29, .iconst 0, 1), (30, .goto 4, 3), (33, .iconst 1, 1), (34, .putfield 303, 3), (37, .aload_n 0, 1), (38, .getfield 303, 3), (41, .ifCond .le 5, 3), (44, .iconst 0, 1), (45, .ireturn, 1), (46, .aload_n 0, 1), (47, .getfield 13, 3), (50, .iconst 5, 1), (51, .iload_n 1, 1), (52, .imul, 1), (53, .iload_n 2, 1), (54, .iadd, 1), (55, .iaload, 1), (56, .istore 4, 2), (58, .aload_n 0, 1), (59, .getfield 13, 3), (62, .iconst 5, 1), (63, .iload_n 1, 1), (64, .imul, 1), (65, .iload_n 2, 1), (66, .iadd, 1), (67, .iload_n 3, 1), (68, .ldc_w 611, 3), (71, .iand, 1), (72, .iastore, 1), (73, .iload 4, 2), (75, .ireturn, 1)]
theorem dt_Ref_master (i : Nat) : decode (jm_cod M_Ref_master) (tab_Ref_master.getD i (0, .aload_n 0, 1)).1 = .ok ((tab_Ref_master.getD i (0, .aload_n 0, 1)).2.1, (tab_Ref_master.getD i (0, .aload_n 0, 1)).2.2) := j_tab (by decide +kernel) i
theorem d_Ref_master_0 : decode (jm_cod M_Ref_master) 0 = .ok (.aload_n 0, 1) := dt_Ref_master 0
theorem d_Ref_master_1 : decode (jm_cod M_Ref_master) 1 = .ok (.iload_n 1, 1) := dt_Ref_master 1
theorem d_Ref_master_2 : decode (jm_cod M_Ref_master) 2 = .ok (.i2l, 1) := dt_Ref_master 2
theorem d_Ref_master_3 : decode (jm_cod M_Ref_master) 3 = .ok (.lconst 0, 1) := dt_Ref_master 3
theorem d_Ref_master_4 : decode (jm_cod M_Ref_master) 4 = .ok (.aload_n 0, 1) := dt_Ref_master 4
theorem d_Ref_master_5 : decode (jm_cod M_Ref_master) 5 = .ok (.getfield 290, 3) := dt_Ref_master 5
theorem d_Ref_master_8 : decode (jm_cod M_Ref_master) 8 = .ok (.i2l, 1) := dt_Ref_master 6
theorem d_Ref_master_9 : decode (jm_cod M_Ref_master) 9 = .ok (.lconst 1, 1) := dt_Ref_master 7
theorem d_Ref_master_10 : decode (jm_cod M_Ref_master) 10 = .ok (.lsub, 1) := dt_Ref_master 8
theorem d_Ref_master_11 : decode (jm_cod M_Ref_master) 11 = .ok (.invokestatic 599, 3) := dt_Ref_master 9
theorem d_Ref_master_14 : decode (jm_cod M_Ref_master) 14 = .ok (.ifCond .eq 19, 3) := dt_Ref_master 10
theorem d_Ref_master_17 : decode (jm_cod M_Ref_master) 17 = .ok (.iload_n 2, 1) := dt_Ref_master 11
theorem d_Ref_master_18 : decode (jm_cod M_Ref_master) 18 = .ok (.i2l, 1) := dt_Ref_master 12
theorem d_Ref_master_19 : decode (jm_cod M_Ref_master) 19 = .ok (.lconst 0, 1) := dt_Ref_master 13
theorem d_Ref_master_20 : decode (jm_cod M_Ref_master) 20 = .ok (.ldc2_w 609, 3) := dt_Ref_master 14
theorem d_Ref_master_23 : decode (jm_cod M_Ref_master) 23 = .ok (.invokestatic 599, 3) := dt_Ref_master 15
theorem d_Ref_master_26 : decode (jm_cod M_Ref_master) 26 = .ok (.ifCond .eq 7, 3) := dt_Ref_master 16
theorem d_Ref_master_29 : decode (jm_cod M_Ref_master) 29 = .ok (.iconst 0, 1) := dt_Ref_master 17
theorem d_Ref_master_30 : decode (jm_cod M_Ref_master) 30 = .ok (.goto 4, 3) := dt_Ref_master 18
theorem d_Ref_master_33 : decode (jm_cod M_Ref_master) 33 = .ok (.iconst 1, 1) := dt_Ref_master 19
theorem d_Ref_master_34 : decode (jm_cod M_Ref_master) 34 = .ok (.putfield 303, 3) := dt_Ref_master 20
theorem d_Ref_master_37 : decode (jm_cod M_Ref_master) 37 = .ok (.aload_n 0, 1) := dt_Ref_master 21
theorem d_Ref_master_38 : decode (jm_cod M_Ref_master) 38 = .ok (.getfield 303, 3) := dt_Ref_master 22
theorem d_Ref_master_41 : decode (jm_cod M_Ref_master) 41 = .ok (.ifCond .le 5, 3) := dt_Ref_master 23
theorem d_Ref_master_44 : decode (jm_cod M_Ref_master) 44 = .ok (.iconst 0, 1) := dt_Ref_master 24
theorem d_Ref_master_45 : decode (jm_cod M_Ref_master) 45 = .ok (.ireturn, 1) := dt_Ref_master 25
theorem d_Ref_master_46 : decode (jm_cod M_Ref_master) 46 = .ok (.aload_n 0, 1) := dt_Ref_master 26
theorem d_Ref_master_47 : decode (jm_cod M_Ref_master) 47 = .ok (.getfield 13, 3) := dt_Ref_master 27
theorem d_Ref_master_50 : decode (jm_cod M_Ref_master) 50 = .ok (.iconst 5, 1) := dt_Ref_master 28
theorem d_Ref_master_51 : decode (jm_cod M_Ref_master) 51 = .ok (.iload_n 1, 1) := dt_Ref_master 29
theorem d_Ref_master_52 : decode (jm_cod M_Ref_master) 52 = .ok (.imul, 1) := dt_Ref_master 30
theorem d_Ref_master_53 : decode (jm_cod M_Ref_master) 53 = .ok (.iload_n 2, 1) := dt_Ref_master 31
theorem d_Ref_master_54 : decode (jm_cod M_Ref_master) 54 = .ok (.iadd, 1) := dt_Ref_master 32
theorem d_Ref_master_55 : decode (jm_cod M_Ref_master) 55 = .ok (.iaload, 1) := dt_Ref_master 33
theorem d_Ref_master_56 : decode (jm_cod M_Ref_master) 56 = .ok (.istore 4, 2) := dt_Ref_master 34
theorem d_Ref_master_58 : decode (jm_cod M_Ref_master) 58 = .ok (.aload_n 0, 1) := dt_Ref_master 35
theorem d_Ref_master_59 : decode (jm_cod M_Ref_master) 59 = .ok (.getfield 13, 3) := dt_Ref_master 36
theorem d_Ref_master_62 : decode (jm_cod M_Ref_master) 62 = .ok (.iconst 5, 1) := dt_Ref_master 37
theorem d_Ref_master_63 : decode (jm_cod M_Ref_master) 63 = .ok (.iload_n 1, 1) := dt_Ref_master 38
theorem d_Ref_master_64 : decode (jm_cod M_Ref_master) 64 = .ok (.imul, 1) := dt_Ref_master 39
theorem d_Ref_master_65 : decode (jm_cod M_Ref_master) 65 = .ok (.iload_n 2, 1) := dt_Ref_master 40
theorem d_Ref_master_66 : decode (jm_cod M_Ref_master) 66 = .ok (.iadd, 1) := dt_Ref_master 41
theorem d_Ref_master_67 : decode (jm_cod M_Ref_master) 67 = .ok (.iload_n 3, 1) := dt_Ref_master 42
theorem d_Ref_master_68 : decode (jm_cod M_Ref_master) 68 = .ok (.ldc_w 611, 3) := dt_Ref_master 43
theorem d_Ref_master_71 : decode (jm_cod M_Ref_master) 71 = .ok (.iand, 1) := dt_Ref_master 44
theorem d_Ref_master_72 : decode (jm_cod M_Ref_master) 72 = .ok (.iastore, 1) := dt_Ref_master 45
theorem d_Ref_master_73 : decode (jm_cod M_Ref_master) 73 = .ok (.iload 4, 2) := dt_Ref_master 46
theorem d_Ref_master_75 : decode (jm_cod M_Ref_master) 75 = .ok (.ireturn, 1) := dt_Ref_master 47
def tab_Ref_early : List (Nat × Instr × Nat) := [(0, .aload_n 0, 1), (1, .iload_n 1, 1), (2, .i2l, 1), (3, .lconst 0, 1), (4, .aload_n 0, 1), (5, .getfield 290, 3), (8, .i2l, 1), (9, .lconst 1, 1), (10, .lsub, 1), (11, .invokestatic 599, 3), (14, .ifCond .eq 7, 3), (17, .iconst 0, 1), (18, .goto 4, 3), (21, .iconst 1, 1), (22, .putfield 303, 3), (25, .aload_n 0, 1), (26, .getfield 303, 3), (29, .ifCond .le 5, 3), (32, .iconst 0, 1), (33, .ireturn, 1), (34, .aload_n 0, 1), (35, .getfield 19, 3), (38, .iload_n 1, 1), (39, .baload, 1), (40, .istore_n 3, 1), (41, .aload_n 0, 1), (42, .getfield 19, 3), (45, .iload_n 1, 1), (46, .iload_n 2, 1), (47, .bastore, 1), (48, .iload_n 3, 1), (49, .ireturn, 1)]
theorem dt_Ref_early (i : Nat) : decode (jm_cod M_Ref_early) (tab_Ref_early.getD i (0, .aload_n 0, 1)).1 = .ok ((tab_Ref_early.getD i (0, .aload_n 0, 1)).2.1, (tab_Ref_early.getD i (0, .aload_n 0, 1)).2.2) := j_tab (by decide +kernel) i
theorem d_Ref_early_0 : decode (jm_cod M_Ref_early) 0 = .ok (.aload_n 0, 1) := dt_Ref_early 0
theorem d_Ref_early_1 : decode (jm_cod M_Ref_early) 1 = .ok (.iload_n 1, 1) := dt_Ref_early 1
theorem d_Ref_early_2 : decode (jm_cod M_Ref_early) 2 = .ok (.i2l, 1) := dt_Ref_early 2
theorem d_Ref_early_3 : decode (jm_cod M_Ref_early) 3 = .ok (.lconst 0, 1) := dt_Ref_early 3
theorem d_Ref_early_4 : decode (jm_cod M_Ref_early) 4 = .ok (.aload_n 0, 1) := dt_Ref_early 4
theorem d_Ref_early_5 : decode (jm_cod M_Ref_early) 5 = .ok (.getfield 290, 3) := dt_Ref_early 5
theorem d_Ref_early_8 : decode (jm_cod M_Ref_early) 8 = .ok (.i2l, 1) := dt_Ref_early 6
theorem d_Ref_early_9 : decode (jm_cod M_Ref_early) 9 = .ok (.lconst 1, 1) := dt_Ref_early 7
theorem d_Ref_early_10 : decode (jm_cod M_Ref_early) 10 = .ok (.lsub, 1) := dt_Ref_early 8
theorem d_Ref_early_11 : decode (jm_cod M_Ref_early) 11 = .ok (.invokestatic 599, 3) := dt_Ref_early 9
theorem d_Ref_early_14 : decode (jm_cod M_Ref_early) 14 = .ok (.ifCond .eq 7, 3) := dt_Ref_early 10
theorem d_Ref_early_17 : decode (jm_cod M_Ref_early) 17 = .ok (.iconst 0, 1) := dt_Ref_early 11
theorem d_Ref_early_18 : decode (jm_cod M_Ref_early) 18 = .ok (.goto 4, 3) := dt_Ref_early 12
theorem d_Ref_early_21 : decode (jm_cod M_Ref_early) 21 = .ok (.iconst 1, 1) := dt_Ref_early 13
theorem d_Ref_early_22 : decode (jm_cod M_Ref_early) 22 = .ok (.putfield 303, 3) := dt_Ref_early 14
theorem d_Ref_early_25 : decode (jm_cod M_Ref_early) 25 = .ok (.aload_n 0, 1) := dt_Ref_early 15
theorem d_Ref_early_26 : decode (jm_cod M_Ref_early) 26 = .ok (.getfield 303, 3) := dt_Ref_early 16
theorem d_Ref_early_29 : decode (jm_cod M_Ref_early) 29 = .ok (.ifCond .le 5, 3) := dt_Ref_early 17
theorem d_Ref_early_32 : decode (jm_cod M_Ref_early) 32 = .ok (.iconst 0, 1) := dt_Ref_early 18
theorem d_Ref_early_33 : decode (jm_cod M_Ref_early) 33 = .ok (.ireturn, 1) := dt_Ref_early 19
theorem d_Ref_early_34 : decode (jm_cod M_Ref_early) 34 = .ok (.aload_n 0, 1) := dt_Ref_early 20
theorem d_Ref_early_35 : decode (jm_cod M_Ref_early) 35 = .ok (.getfield 19, 3) := dt_Ref_early 21
theorem d_Ref_early_38 : decode (jm_cod M_Ref_early) 38 = .ok (.iload_n 1, 1) := dt_Ref_early 22
theorem d_Ref_early_39 : decode (jm_cod M_Ref_early) 39 = .ok (.baload, 1) := dt_Ref_early 23
theorem d_Ref_early_40 : decode (jm_cod M_Ref_early) 40 = .ok (.istore_n 3, 1) := dt_Ref_early 24
theorem d_Ref_early_41 : decode (jm_cod M_Ref_early) 41 = .ok (.aload_n 0, 1) := dt_Ref_early 25
theorem d_Ref_early_42 : decode (jm_cod M_Ref_early) 42 = .ok (.getfield 19, 3) := dt_Ref_early 26
theorem d_Ref_early_45 : decode (jm_cod M_Ref_early) 45 = .ok (.iload_n 1, 1) := dt_Ref_early 27
theorem d_Ref_early_46 : decode (jm_cod M_Ref_early) 46 = .ok (.iload_n 2, 1) := dt_Ref_early 28
theorem d_Ref_early_47 : decode (jm_cod M_Ref_early) 47 = .ok (.bastore, 1) := dt_Ref_early 29
theorem d_Ref_early_48 : decode (jm_cod M_Ref_early) 48 = .ok (.iload_n 3, 1) := dt_Ref_early 30
theorem d_Ref_early_49 : decode (jm_cod M_Ref_early) 49 = .ok (.ireturn, 1) := dt_Ref_early 31
def tab_Ref_slave : List (Nat × Instr × Nat) := [(0, .aload_n 0, 1), (1, .iload_n 1, 1), (2, .i2l, 1), (3, .lconst 0, 1), (4, .aload_n 0, 1), (5, .getfield 294, 3), (8, .i2l, 1), (9, .lconst 1, 1), (10, .lsub, 1), (11, .invokestatic 599, 3), (14, .ifCond .eq 19, 3), (17, .iload_n 2, 1), (18, .i2l, 1), (19, .lconst 0, 1), (20, .ldc2_w 609, 3), (23, .invokestatic 599, 3), (26, .ifCond .eq 7, 3), (29, .iconst 0, 1), (30, .goto 4, 3), (33, .iconst 1, 1), (34, .putfield 303, 3), (37, .aload_n 0, 1), (38, .getfield 303, 3), (41, .ifCond .le 5, 3), (44, .iconst 0, 1), (45, .ireturn, 1), (46, .aload_n 0, 1), (47, .getfield 16, 3), (50, .iconst 5, 1), (51, .iload_n 1, 1), (52, .imul, 1), (53, .iload_n 2, 1), (54, .iadd, 1), (55, .iaload, 1), (56, .istore 4, 2), (58, .aload_n 0, 1), (59, .getfield 16, 3), (62, .iconst 5, 1), (63, .iload_n 1, 1), (64, .imul, 1), (65, .iload_n 2, 1), (66, .iadd, 1), (67, .iload_n 3, 1), (68, .ldc_w 611, 3), (71, .iand, 1), (72, .iastore, 1), (73, .iload 4, 2), (75, .ireturn, 1)]
theorem dt_Ref_slave (i : Nat) : decode (jm_cod M_Ref_slave) (tab_Ref_slave.getD i (0, .aload_n 0, 1)).1 = .ok ((tab_Ref_slave.getD i (0, .aload_n 0, 1)).2.1, (tab_Ref_slave.getD i (0, .aload_n 0, 1)).2.2) := j_tab (by decide +kernel) i
theorem d_Ref_slave_0 : decode (jm_cod M_Ref_slave) 0 = .ok (.aload_n 0, 1) := dt_Ref_slave 0
theorem d_Ref_slave_1 : decode (jm_cod M_Ref_slave) 1 = .ok (.iload_n 1, 1) := dt_Ref_slave 1
theorem d_Ref_slave_2 : decode (jm_cod M_Ref_slave) 2 = .ok (.i2l, 1) := dt_Ref_slave 2
theorem d_Ref_slave_3 : decode (jm_cod M_Ref_slave) 3 = .ok (.lconst 0, 1) := dt_Ref_slave 3
theorem d_Ref_slave_4 : decode (jm_cod M_Ref_slave) 4 = .ok (.aload_n 0, 1) := dt_Ref_slave 4
theorem d_Ref_slave_5 : decode (jm_cod M_Ref_slave) 5 = .ok (.getfield 294, 3) := dt_Ref_slave 5
theorem d_Ref_slave_8 : decode (jm_cod M_Ref_slave) 8 = .ok (.i2l, 1) := dt_Ref_slave 6
theorem d_Ref_slave_9 : decode (jm_cod M_Ref_slave) 9 = .ok (.lconst 1, 1) := dt_Ref_slave 7
theorem d_Ref_slave_10 : decode (jm_cod M_Ref_slave) 10 = .ok (.lsub, 1) := dt_Ref_slave 8
theorem d_Ref_slave_11 : decode (jm_cod M_Ref_slave) 11 = .ok (.invokestatic 599, 3) := dt_Ref_slave 9
theorem d_Ref_slave_14 : decode (jm_cod M_Ref_slave) 14 = .ok (.ifCond .eq 19, 3) := dt_Ref_slave 10
theorem d_Ref_slave_17 : decode (jm_cod M_Ref_slave) 17 = .ok (.iload_n 2, 1) := dt_Ref_slave 11
theorem d_Ref_slave_18 : decode (jm_cod M_Ref_slave) 18 = .ok (.i2l, 1) := dt_Ref_slave 12
theorem d_Ref_slave_19 : decode (jm_cod M_Ref_slave) 19 = .ok (.lconst 0, 1) := dt_Ref_slave 13
theorem d_Ref_slave_20 : decode (jm_cod M_Ref_slave) 20 = .ok (.ldc2_w 609, 3) := dt_Ref_slave 14
theorem d_Ref_slave_23 : decode (jm_cod M_Ref_slave) 23 = .ok (.invokestatic 599, 3) := dt_Ref_slave 15
theorem d_Ref_slave_26 : decode (jm_cod M_Ref_slave) 26 = .ok (.ifCond .eq 7, 3) := dt_Ref_slave 16
theorem d_Ref_slave_29 : decode (jm_cod M_Ref_slave) 29 = .ok (.iconst 0, 1) := dt_Ref_slave 17
theorem d_Ref_slave_30 : decode (jm_cod M_Ref_slave) 30 = .ok (.goto 4, 3) := dt_Ref_slave 18
theorem d_Ref_slave_33 : decode (jm_cod M_Ref_slave) 33 = .ok (.iconst 1, 1) := dt_Ref_slave 19
theorem d_Ref_slave_34 : decode (jm_cod M_Ref_slave) 34 = .ok (.putfield 303, 3) := dt_Ref_slave 20
theorem d_Ref_slave_37 : decode (jm_cod M_Ref_slave) 37 = .ok (.aload_n 0, 1) := dt_Ref_slave 21
theorem d_Ref_slave_38 : decode (jm_cod M_Ref_slave) 38 = .ok (.getfield 303, 3) := dt_Ref_slave 22
theorem d_Ref_slave_41 : decode (jm_cod M_Ref_slave) 41 = .ok (.ifCond .le 5, 3) := dt_Ref_slave 23
theorem d_Ref_slave_44 : decode (jm_cod M_Ref_slave) 44 = .ok (.iconst 0, 1) := dt_Ref_slave 24
theorem d_Ref_slave_45 : decode (jm_cod M_Ref_slave) 45 = .ok (.ireturn, 1) := dt_Ref_slave 25
theorem d_Ref_slave_46 : decode (jm_cod M_Ref_slave) 46 = .ok (.aload_n 0, 1) := dt_Ref_slave 26
theorem d_Ref_slave_47 : decode (jm_cod M_Ref_slave) 47 = .ok (.getfield 16, 3) := dt_Ref_slave 27
theorem d_Ref_slave_50 : decode (jm_cod M_Ref_slave) 50 = .ok (.iconst 5, 1) := dt_Ref_slave 28
theorem d_Ref_slave_51 : decode (jm_cod M_Ref_slave) 51 = .ok (.iload_n 1, 1) := dt_Ref_slave 29
theorem d_Ref_slave_52 : decode (jm_cod M_Ref_slave) 52 = .ok (.imul, 1) := dt_Ref_slave 30
theorem d_Ref_slave_53 : decode (jm_cod M_Ref_slave) 53 = .ok (.iload_n 2, 1) := dt_Ref_slave 31
theorem d_Ref_slave_54 : decode (jm_cod M_Ref_slave) 54 = .ok (.iadd, 1) := dt_Ref_slave 32
theorem d_Ref_slave_55 : decode (jm_cod M_Ref_slave) 55 = .ok (.iaload, 1) := dt_Ref_slave 33
theorem d_Ref_slave_56 : decode (jm_cod M_Ref_slave) 56 = .ok (.istore 4, 2) := dt_Ref_slave 34
theorem d_Ref_slave_58 : decode (jm_cod M_Ref_slave) 58 = .ok (.aload_n 0, 1) := dt_Ref_slave 35
theorem d_Ref_slave_59 : decode (jm_cod M_Ref_slave) 59 = .ok (.getfield 16, 3) := dt_Ref_slave 36
theorem d_Ref_slave_62 : decode (jm_cod M_Ref_slave) 62 = .ok (.iconst 5, 1) := dt_Ref_slave 37
theorem d_Ref_slave_63 : decode (jm_cod M_Ref_slave) 63 = .ok (.iload_n 1, 1) := dt_Ref_slave 38
theorem d_Ref_slave_64 : decode (jm_cod M_Ref_slave) 64 = .ok (.imul, 1) := dt_Ref_slave 39
theorem d_Ref_slave_65 : decode (jm_cod M_Ref_slave) 65 = .ok (.iload_n 2, 1) := dt_Ref_slave 40
theorem d_Ref_slave_66 : decode (jm_cod M_Ref_slave) 66 = .ok (.iadd, 1) := dt_Ref_slave 41
theorem d_Ref_slave_67 : decode (jm_cod M_Ref_slave) 67 = .ok (.iload_n 3, 1) := dt_Ref_slave 42
theorem d_Ref_slave_68 : decode (jm_cod M_Ref_slave) 68 = .ok (.ldc_w 611, 3) := dt_Ref_slave 43
theorem d_Ref_slave_71 : decode (jm_cod M_Ref_slave) 71 = .ok (.iand, 1) := dt_Ref_slave 44
theorem d_Ref_slave_72 : decode (jm_cod M_Ref_slave) 72 = .ok (.iastore, 1) := dt_Ref_slave 45
theorem d_Ref_slave_73 : decode (jm_cod M_Ref_slave) 73 = .ok (.iload 4, 2) := dt_Ref_slave 46
theorem d_Ref_slave_75 : decode (jm_cod M_Ref_slave) 75 = .ok (.ireturn, 1) := dt_Ref_slave 47
def tab_Ref_way : List (Nat × Instr × Nat) := [(0, .aload_n 0, 1), (1, .iload_n 1, 1), (2, .i2l, 1), (3, .lconst 0, 1), (4, .aload_n 0, 1), (5, .getfield 294, 3), (8, .i2l, 1), (9, .lconst 1, 1), (10, .lsub, 1), (11, .invokestatic 599, 3), (14, .ifCond .ne 7, 3), (17, .iconst 1, 1), (18, .goto 32, 3), (21, .iload_n 2, 1), (22, .i2l, 1), (23, .lconst 0, 1), (24, .ldc2_w 310, 3), (27, .invokestatic 599, 3), (30, .ifCond .eq 15, 3), (33, .iload_n 3, 1), (34, .i2l, 1), (35, .lconst 0, 1), (36, .ldc2_w 612, 3), (39, .invokestatic 599, 3), (42, .ifCond .ne 7, 3), (45, .iconst 2, 1), (46, .goto 4, 3), (49, .iconst 0, 1), (50, .putfield 303, 3), (53, .aload_n 0, 1), (54, .getfield 303, 3), (57, .ifCond .le 5, 3), (60, .iconst 0, 1), (61, .ireturn, 1), (62, .bipush 16, 2), (64, .aload_n 0, 1), (65, .getfield 26, 3), (68, .iload_n 1, 1), (69, .iaload, 1), (70, .imul, 1), (71, .aload_n 0, 1), (72, .getfield 23, 3), (75, .iload_n 1, 1), (76, .iaload, 1), (77, .iadd, 1), (78, .istore 4, 2), (80, .aload_n 0, 1), (81, .getfield 26, 3), (84, .iload_n 1, 1), (85, .iload_n 3, 1), (86, .iastore, 1), (87, .aload_n 0, 1), (88, .getfield 23, 3), (91, .iload_n 1, 1), (92, .iload_n 2, 1), (93, .iastore, 1), (94, .iload 4, 2), (96, .ireturn, 1)]
theorem dt_Ref_way (i : Nat) : decode (jm_cod M_Ref_way) (tab_Ref_way.getD i (0, .aload_n 0, 1)).1 = .ok ((tab_Ref_way.getD i (0, .aload_n 0, 1)).2.1, (tab_Ref_way.getD i (0, .aload_n 0, 1)).2.2) := j_tab (by decide +kernel) i
theorem d_Ref_way_0 : decode (jm_cod M_Ref_way) 0 = .ok (.aload_n 0, 1) := dt_Ref_way 0
theorem d_Ref_way_1 : decode (jm_cod M_Ref_way) 1 = .ok (.iload_n 1, 1) := dt_Ref_way 1
theorem d_Ref_way_2 : decode (jm_cod M_Ref_way) 2 = .ok (.i2l, 1) := dt_Ref_way 2
theorem d_Ref_way_3 : decode (jm_cod M_Ref_way) 3 = .ok (.lconst 0, 1) := dt_Ref_way 3
theorem d_Ref_way_4 : decode (jm_cod M_Ref_way) 4 = .ok (.aload_n 0, 1) := dt_Ref_way 4
theorem d_Ref_way_5 : decode (jm_cod M_Ref_way) 5 = .ok (.getfield 294, 3) := dt_Ref_way 5
theorem d_Ref_way_8 : decode (jm_cod M_Ref_way) 8 = .ok (.i2l, 1) := dt_Ref_way 6
theorem d_Ref_way_9 : decode (jm_cod M_Ref_way) 9 = .ok (.lconst 1, 1) := dt_Ref_way 7
theorem d_Ref_way_10 : decode (jm_cod M_Ref_way) 10 = .ok (.lsub, 1) := dt_Ref_way 8
theorem d_Ref_way_11 : decode (jm_cod M_Ref_way) 11 = .ok (.invokestatic 599, 3) := dt_Ref_way 9
theorem d_Ref_way_14 : decode (jm_cod M_Ref_way) 14 = .ok (.ifCond .ne 7, 3) := dt_Ref_way 10
theorem d_Ref_way_17 : decode (jm_cod M_Ref_way) 17 = .ok (.iconst 1, 1) := dt_Ref_way 11
theorem d_Ref_way_18 : decode (jm_cod M_Ref_way) 18 = .ok (.goto 32, 3) := dt_Ref_way 12
theorem d_Ref_way_21 : decode (jm_cod M_Ref_way) 21 = .ok (.iload_n 2, 1) := dt_Ref_way 13
theorem d_Ref_way_22 : decode (jm_cod M_Ref_way) 22 = .ok (.i2l, 1) := dt_Ref_way 14
theorem d_Ref_way_23 : decode (jm_cod M_Ref_way) 23 = .ok (.lconst 0, 1) := dt_Ref_way 15
theorem d_Ref_way_24 : decode (jm_cod M_Ref_way) 24 = .ok (.ldc2_w 310, 3) := dt_Ref_way 16
theorem d_Ref_way_27 : decode (jm_cod M_Ref_way) 27 = .ok (.invokestatic 599, 3) := dt_Ref_way 17
theorem d_Ref_way_30 : decode (jm_cod M_Ref_way) 30 = .ok (.ifCond .eq 15, 3) := dt_Ref_way 18
theorem d_Ref_way_33 : decode (jm_cod M_Ref_way) 33 = .ok (.iload_n 3, 1) := dt_Ref_way 19
theorem d_Ref_way_34 : decode (jm_cod M_Ref_way) 34 = .ok (.i2l, 1) := dt_Ref_way 20
theorem d_Ref_way_35 : decode (jm_cod M_Ref_way) 35 = .ok (.lconst 0, 1) := dt_Ref_way 21
theorem d_Ref_way_36 : decode (jm_cod M_Ref_way) 36 = .ok (.ldc2_w 612, 3) := dt_Ref_way 22
theorem d_Ref_way_39 : decode (jm_cod M_Ref_way) 39 = .ok (.invokestatic 599, 3) := dt_Ref_way 23
theorem d_Ref_way_42 : decode (jm_cod M_Ref_way) 42 = .ok (.ifCond .ne 7, 3) := dt_Ref_way 24
theorem d_Ref_way_45 : decode (jm_cod M_Ref_way) 45 = .ok (.iconst 2, 1) := dt_Ref_way 25
theorem d_Ref_way_46 : decode (jm_cod M_Ref_way) 46 = .ok (.goto 4, 3) := dt_Ref_way 26
theorem d_Ref_way_49 : decode (jm_cod M_Ref_way) 49 = .ok (.iconst 0, 1) := dt_Ref_way 27
theorem d_Ref_way_50 : decode (jm_cod M_Ref_way) 50 = .ok (.putfield 303, 3) := dt_Ref_way 28
theorem d_Ref_way_53 : decode (jm_cod M_Ref_way) 53 = .ok (.aload_n 0, 1) := dt_Ref_way 29
theorem d_Ref_way_54 : decode (jm_cod M_Ref_way) 54 = .ok (.getfield 303, 3) := dt_Ref_way 30
theorem d_Ref_way_57 : decode (jm_cod M_Ref_way) 57 = .ok (.ifCond .le 5, 3) := dt_Ref_way 31
theorem d_Ref_way_60 : decode (jm_cod M_Ref_way) 60 = .ok (.iconst 0, 1) := dt_Ref_way 32
theorem d_Ref_way_61 : decode (jm_cod M_Ref_way) 61 = .ok (.ireturn, 1) := dt_Ref_way 33
theorem d_Ref_way_62 : decode (jm_cod M_Ref_way) 62 = .ok (.bipush 16, 2) := dt_Ref_way 34
theorem d_Ref_way_64 : decode (jm_cod M_Ref_way) 64 = .ok (.aload_n 0, 1) := dt_Ref_way 35
theorem d_Ref_way_65 : decode (jm_cod M_Ref_way) 65 = .ok (.getfield 26, 3) := dt_Ref_way 36
theorem d_Ref_way_68 : decode (jm_cod M_Ref_way) 68 = .ok (.iload_n 1, 1) := dt_Ref_way 37
theorem d_Ref_way_69 : decode (jm_cod M_Ref_way) 69 = .ok (.iaload, 1) := dt_Ref_way 38
theorem d_Ref_way_70 : decode (jm_cod M_Ref_way) 70 = .ok (.imul, 1) := dt_Ref_way 39
theorem d_Ref_way_71 : decode (jm_cod M_Ref_way) 71 = .ok (.aload_n 0, 1) := dt_Ref_way 40
theorem d_Ref_way_72 : decode (jm_cod M_Ref_way) 72 = .ok (.getfield 23, 3) := dt_Ref_way 41
theorem d_Ref_way_75 : decode (jm_cod M_Ref_way) 75 = .ok (.iload_n 1, 1) := dt_Ref_way 42
theorem d_Ref_way_76 : decode (jm_cod M_Ref_way) 76 = .ok (.iaload, 1) := dt_Ref_way 43
theorem d_Ref_way_77 : decode (jm_cod M_Ref_way) 77 = .ok (.iadd, 1) := dt_Ref_way 44
theorem d_Ref_way_78 : decode (jm_cod M_Ref_way) 78 = .ok (.istore 4, 2) := dt_Ref_way 45
theorem d_Ref_way_80 : decode (jm_cod M_Ref_way) 80 = .ok (.aload_n 0, 1) := dt_Ref_way 46
theorem d_Ref_way_81 : decode (jm_cod M_Ref_way) 81 = .ok (.getfield 26, 3) := dt_Ref_way 47
theorem d_Ref_way_84 : decode (jm_cod M_Ref_way) 84 = .ok (.iload_n 1, 1) := dt_Ref_way 48
theorem d_Ref_way_85 : decode (jm_cod M_Ref_way) 85 = .ok (.iload_n 3, 1) := dt_Ref_way 49
theorem d_Ref_way_86 : decode (jm_cod M_Ref_way) 86 = .ok (.iastore, 1) := dt_Ref_way 50
theorem d_Ref_way_87 : decode (jm_cod M_Ref_way) 87 = .ok (.aload_n 0, 1) := dt_Ref_way 51
theorem d_Ref_way_88 : decode (jm_cod M_Ref_way) 88 = .ok (.getfield 23, 3) := dt_Ref_way 52
theorem d_Ref_way_91 : decode (jm_cod M_Ref_way) 91 = .ok (.iload_n 1, 1) := dt_Ref_way 53
theorem d_Ref_way_92 : decode (jm_cod M_Ref_way) 92 = .ok (.iload_n 2, 1) := dt_Ref_way 54
theorem d_Ref_way_93 : decode (jm_cod M_Ref_way) 93 = .ok (.iastore, 1) := dt_Ref_way 55
theorem d_Ref_way_94 : decode (jm_cod M_Ref_way) 94 = .ok (.iload 4, 2) := dt_Ref_way 56
theorem d_Ref_way_96 : decode (jm_cod M_Ref_way) 96 = .ok (.ireturn, 1) := dt_Ref_way 57
def tab_Ref_spoil : List (Nat × Instr × Nat) := [(0, .aload_n 0, 1), (1, .iload_n 1, 1), (2, .i2l, 1), (3, .lconst 0, 1), (4, .ldc2_w 308, 3), (7, .invokestatic 599, 3), (10, .ifCond .ne 7, 3), (13, .iconst 1, 1), (14, .goto 13, 3), (17, .iload_n 2, 1), (18, .iconst 1, 1), (19, .if_icmp .ge 7, 3), (22, .iconst 2, 1), (23, .goto 4, 3), (26, .iconst 0, 1), (27, .putfield 303, 3), (30, .iconst 0, 1), (31, .istore 4, 2), (33, .iload_n 1, 1), (34, .istore 5, 2), (36, .aload_n 0, 1), (37, .getfield 303, 3), (40, .ifCond .ne 53, 3), (43, .iload 5, 2), (45, .ldc 29, 2), (47, .if_icmp .ge 46, 3), (50, .iload 5, 2), (52, .iload_n 1, 1), (53, .isub, 1), (54, .iload_n 2, 1), (55, .if_icmp .ge 38, 3), (58, .iload 4, 2), (60, .aload_n 0, 1), (61, .getfield 33, 3), (64, .iload 5, 2), (66, .baload, 1), (67, .iload_n 3, 1), (68, .if_icmp .eq 7, 3), (71, .iconst 1, 1), (72, .goto 4, 3), (75, .iconst 0, 1), (76, .iadd, 1), (77, .istore 4, 2), (79, .aload_n 0, 1), (80, .getfield 33, 3), (83, .iload 5, 2), (85, .iload_n 3, 1), (86, .bastore, 1), (87, .iinc 5 1, 3), (90, .goto (-54), 3), (93, .iload 4, 2), (95, .ireturn, 1)]
theorem dt_Ref_spoil (i : Nat) : decode (jm_cod M_Ref_spoil) (tab_Ref_spoil.getD i (0, .aload_n 0, 1)).1 = .ok ((tab_Ref_spoil.getD i (0, .aload_n 0, 1)).2.1, (tab_Ref_spoil.getD i (0, .aload_n 0, 1)).2.2) := j_tab (by decide +kernel) i
theorem d_Ref_spoil_0 : decode (jm_cod M_Ref_spoil) 0 = .ok (.aload_n 0, 1) := dt_Ref_spoil 0
theorem d_Ref_spoil_1 : decode (jm_cod M_Ref_spoil) 1 = .ok (.iload_n 1, 1) := dt_Ref_spoil 1
theorem d_Ref_spoil_2 : decode (jm_cod M_Ref_spoil) 2 = .ok (.i2l, 1) := dt_Ref_spoil 2
theorem d_Ref_spoil_3 : decode (jm_cod M_Ref_spoil) 3 = .ok (.lconst 0, 1) := dt_Ref_spoil 3
theorem d_Ref_spoil_4 : decode (jm_cod M_Ref_spoil) 4 = .ok (.ldc2_w 308, 3) := dt_Ref_spoil 4
theorem d_Ref_spoil_7 : decode (jm_cod M_Ref_spoil) 7 = .ok (.invokestatic 599, 3) := dt_Ref_spoil 5
theorem d_Ref_spoil_10 : decode (jm_cod M_Ref_spoil) 10 = .ok (.ifCond .ne 7, 3) := dt_Ref_spoil 6
theorem d_Ref_spoil_13 : decode (jm_cod M_Ref_spoil) 13 = .ok (.iconst 1, 1) := dt_Ref_spoil 7
theorem d_Ref_spoil_14 : decode (jm_cod M_Ref_spoil) 14 = .ok (.goto 13, 3) := dt_Ref_spoil 8
theorem d_Ref_spoil_17 : decode (jm_cod M_Ref_spoil) 17 = .ok (.iload_n 2, 1) := dt_Ref_spoil 9
theorem d_Ref_spoil_18 : decode (jm_cod M_Ref_spoil) 18 = .ok (.iconst 1, 1) := dt_Ref_spoil 10
theorem d_Ref_spoil_19 : decode (jm_cod M_Ref_spoil) 19 = .ok (.if_icmp .ge 7, 3) := dt_Ref_spoil 11
theorem d_Ref_spoil_22 : decode (jm_cod M_Ref_spoil) 22 = .ok (.iconst 2, 1) := dt_Ref_spoil 12
theorem d_Ref_spoil_23 : decode (jm_cod M_Ref_spoil) 23 = .ok (.goto 4, 3) := dt_Ref_spoil 13
theorem d_Ref_spoil_26 : decode (jm_cod M_Ref_spoil) 26 = .ok (.iconst 0, 1) := dt_Ref_spoil 14
theorem d_Ref_spoil_27 : decode (jm_cod M_Ref_spoil) 27 = .ok (.putfield 303, 3) := dt_Ref_spoil 15
theorem d_Ref_spoil_30 : decode (jm_cod M_Ref_spoil) 30 = .ok (.iconst 0, 1) := dt_Ref_spoil 16
theorem d_Ref_spoil_31 : decode (jm_cod M_Ref_spoil) 31 = .ok (.istore 4, 2) := dt_Ref_spoil 17
theorem d_Ref_spoil_33 : decode (jm_cod M_Ref_spoil) 33 = .ok (.iload_n 1, 1) := dt_Ref_spoil 18
theorem d_Ref_spoil_34 : decode (jm_cod M_Ref_spoil) 34 = .ok (.istore 5, 2) := dt_Ref_spoil 19
theorem d_Ref_spoil_36 : decode (jm_cod M_Ref_spoil) 36 = .ok (.aload_n 0, 1) := dt_Ref_spoil 20
theorem d_Ref_spoil_37 : decode (jm_cod M_Ref_spoil) 37 = .ok (.getfield 303, 3) := dt_Ref_spoil 21
theorem d_Ref_spoil_40 : decode (jm_cod M_Ref_spoil) 40 = .ok (.ifCond .ne 53, 3) := dt_Ref_spoil 22
theorem d_Ref_spoil_43 : decode (jm_cod M_Ref_spoil) 43 = .ok (.iload 5, 2) := dt_Ref_spoil 23
theorem d_Ref_spoil_45 : decode (jm_cod M_Ref_spoil) 45 = .ok (.ldc 29, 2) := dt_Ref_spoil 24
theorem d_Ref_spoil_47 : decode (jm_cod M_Ref_spoil) 47 = .ok (.if_icmp .ge 46, 3) := dt_Ref_spoil 25
theorem d_Ref_spoil_50 : decode (jm_cod M_Ref_spoil) 50 = .ok (.iload 5, 2) := dt_Ref_spoil 26
theorem d_Ref_spoil_52 : decode (jm_cod M_Ref_spoil) 52 = .ok (.iload_n 1, 1) := dt_Ref_spoil 27
theorem d_Ref_spoil_53 : decode (jm_cod M_Ref_spoil) 53 = .ok (.isub, 1) := dt_Ref_spoil 28
theorem d_Ref_spoil_54 : decode (jm_cod M_Ref_spoil) 54 = .ok (.iload_n 2, 1) := dt_Ref_spoil 29
theorem d_Ref_spoil_55 : decode (jm_cod M_Ref_spoil) 55 = .ok (.if_icmp .ge 38, 3) := dt_Ref_spoil 30
theorem d_Ref_spoil_58 : decode (jm_cod M_Ref_spoil) 58 = .ok (.iload 4, 2) := dt_Ref_spoil 31
theorem d_Ref_spoil_60 : decode (jm_cod M_Ref_spoil) 60 = .ok (.aload_n 0, 1) := dt_Ref_spoil 32
theorem d_Ref_spoil_61 : decode (jm_cod M_Ref_spoil) 61 = .ok (.getfield 33, 3) := dt_Ref_spoil 33
theorem d_Ref_spoil_64 : decode (jm_cod M_Ref_spoil) 64 = .ok (.iload 5, 2) := dt_Ref_spoil 34
theorem d_Ref_spoil_66 : decode (jm_cod M_Ref_spoil) 66 = .ok (.baload, 1) := dt_Ref_spoil 35
theorem d_Ref_spoil_67 : decode (jm_cod M_Ref_spoil) 67 = .ok (.iload_n 3, 1) := dt_Ref_spoil 36
theorem d_Ref_spoil_68 : decode (jm_cod M_Ref_spoil) 68 = .ok (.if_icmp .eq 7, 3) := dt_Ref_spoil 37
theorem d_Ref_spoil_71 : decode (jm_cod M_Ref_spoil) 71 = .ok (.iconst 1, 1) := dt_Ref_spoil 38
theorem d_Ref_spoil_72 : decode (jm_cod M_Ref_spoil) 72 = .ok (.goto 4, 3) := dt_Ref_spoil 39
theorem d_Ref_spoil_75 : decode (jm_cod M_Ref_spoil) 75 = .ok (.iconst 0, 1) := dt_Ref_spoil 40
theorem d_Ref_spoil_76 : decode (jm_cod M_Ref_spoil) 76 = .ok (.iadd, 1) := dt_Ref_spoil 41
theorem d_Ref_spoil_77 : decode (jm_cod M_Ref_spoil) 77 = .ok (.istore 4, 2) := dt_Ref_spoil 42
theorem d_Ref_spoil_79 : decode (jm_cod M_Ref_spoil) 79 = .ok (.aload_n 0, 1) := dt_Ref_spoil 43
theorem d_Ref_spoil_80 : decode (jm_cod M_Ref_spoil) 80 = .ok (.getfield 33, 3) := dt_Ref_spoil 44
theorem d_Ref_spoil_83 : decode (jm_cod M_Ref_spoil) 83 = .ok (.iload 5, 2) := dt_Ref_spoil 45
theorem d_Ref_spoil_85 : decode (jm_cod M_Ref_spoil) 85 = .ok (.iload_n 3, 1) := dt_Ref_spoil 46
theorem d_Ref_spoil_86 : decode (jm_cod M_Ref_spoil) 86 = .ok (.bastore, 1) := dt_Ref_spoil 47
theorem d_Ref_spoil_87 : decode (jm_cod M_Ref_spoil) 87 = .ok (.iinc 5 1, 3) := dt_Ref_spoil 48
theorem d_Ref_spoil_90 : decode (jm_cod M_Ref_spoil) 90 = .ok (.goto (-54), 3) := dt_Ref_spoil 49
theorem d_Ref_spoil_93 : decode (jm_cod M_Ref_spoil) 93 = .ok (.iload 4, 2) := dt_Ref_spoil 50
theorem d_Ref_spoil_95 : decode (jm_cod M_Ref_spoil) 95 = .ok (.ireturn, 1) := dt_Ref_spoil 51
def tab_Ref_poke : List (Nat × Instr × Nat) := [(0, .aload_n 0, 1), (1, .iload_n 1, 1), (2, .i2l, 1), (3, .lconst 0, 1), (4, .ldc2_w 308, 3), (7, .invokestatic 599, 3), (10, .ifCond .ne 7, 3), (13, .iconst 1, 1), (14, .goto 20, 3), (17, .iload_n 2, 1), (18, .i2l, 1), (19, .lconst 0, 1), (20, .ldc2_w 327, 3), (23, .invokestatic 599, 3), (26, .ifCond .ne 7, 3), (29, .iconst 2, 1), (30, .goto 4, 3), (33, .iconst 0, 1), (34, .putfield 303, 3), (37, .aload_n 0, 1), (38, .getfield 303, 3), (41, .ifCond .le 5, 3), (44, .iconst 0, 1), (45, .ireturn, 1), (46, .aload_n 0, 1), (47, .getfield 30, 3), (50, .iload_n 1, 1), (51, .iaload, 1), (52, .istore_n 3, 1), (53, .aload_n 0, 1), (54, .getfield 30, 3), (57, .iload_n 1, 1), (58, .iload_n 2, 1), (59, .iastore, 1), (60, .iload_n 3, 1), (61, .ireturn, 1)]
theorem dt_Ref_poke (i : Nat) : decode (jm_cod M_Ref_poke) (tab_Ref_poke.getD i (0, .aload_n 0, 1)).1 = .ok ((tab_Ref_poke.getD i (0, .aload_n 0, 1)).2.1, (tab_Ref_poke.getD i (0, .aload_n 0, 1)).2.2) := j_tab (by decide +kernel) i
theorem d_Ref_poke_0 : decode (jm_cod M_Ref_poke) 0 = .ok (.aload_n 0, 1) := dt_Ref_poke 0
theorem d_Ref_poke_1 : decode (jm_cod M_Ref_poke) 1 = .ok (.iload_n 1, 1) := dt_Ref_poke 1
theorem d_Ref_poke_2 : decode (jm_cod M_Ref_poke) 2 = .ok (.i2l, 1) := dt_Ref_poke 2
theorem d_Ref_poke_3 : decode (jm_cod M_Ref_poke) 3 = .ok (.lconst 0, 1) := dt_Ref_poke 3
theorem d_Ref_poke_4 : decode (jm_cod M_Ref_poke) 4 = .ok (.ldc2_w 308, 3) := dt_Ref_poke 4
theorem d_Ref_poke_7 : decode (jm_cod M_Ref_poke) 7 = .ok (.invokestatic 599, 3) := dt_Ref_poke 5
theorem d_Ref_poke_10 : decode (jm_cod M_Ref_poke) 10 = .ok (.ifCond .ne 7, 3) := dt_Ref_poke 6
theorem d_Ref_poke_13 : decode (jm_cod M_Ref_poke) 13 = .ok (.iconst 1, 1) := dt_Ref_poke 7
theorem d_Ref_poke_14 : decode (jm_cod M_Ref_poke) 14 = .ok (.goto 20, 3) := dt_Ref_poke 8
theorem d_Ref_poke_17 : decode (jm_cod M_Ref_poke) 17 = .ok (.iload_n 2, 1) := dt_Ref_poke 9
theorem d_Ref_poke_18 : decode (jm_cod M_Ref_poke) 18 = .ok (.i2l, 1) := dt_Ref_poke 10
theorem d_Ref_poke_19 : decode (jm_cod M_Ref_poke) 19 = .ok (.lconst 0, 1) := dt_Ref_poke 11
theorem d_Ref_poke_20 : decode (jm_cod M_Ref_poke) 20 = .ok (.ldc2_w 327, 3) := dt_Ref_poke 12
theorem d_Ref_poke_23 : decode (jm_cod M_Ref_poke) 23 = .ok (.invokestatic 599, 3) := dt_Ref_poke 13
theorem d_Ref_poke_26 : decode (jm_cod M_Ref_poke) 26 = .ok (.ifCond .ne 7, 3) := dt_Ref_poke 14
theorem d_Ref_poke_29 : decode (jm_cod M_Ref_poke) 29 = .ok (.iconst 2, 1) := dt_Ref_poke 15
theorem d_Ref_poke_30 : decode (jm_cod M_Ref_poke) 30 = .ok (.goto 4, 3) := dt_Ref_poke 16
theorem d_Ref_poke_33 : decode (jm_cod M_Ref_poke) 33 = .ok (.iconst 0, 1) := dt_Ref_poke 17
theorem d_Ref_poke_34 : decode (jm_cod M_Ref_poke) 34 = .ok (.putfield 303, 3) := dt_Ref_poke 18
theorem d_Ref_poke_37 : decode (jm_cod M_Ref_poke) 37 = .ok (.aload_n 0, 1) := dt_Ref_poke 19
theorem d_Ref_poke_38 : decode (jm_cod M_Ref_poke) 38 = .ok (.getfield 303, 3) := dt_Ref_poke 20
theorem d_Ref_poke_41 : decode (jm_cod M_Ref_poke) 41 = .ok (.ifCond .le 5, 3) := dt_Ref_poke 21
theorem d_Ref_poke_44 : decode (jm_cod M_Ref_poke) 44 = .ok (.iconst 0, 1) := dt_Ref_poke 22
theorem d_Ref_poke_45 : decode (jm_cod M_Ref_poke) 45 = .ok (.ireturn, 1) := dt_Ref_poke 23
theorem d_Ref_poke_46 : decode (jm_cod M_Ref_poke) 46 = .ok (.aload_n 0, 1) := dt_Ref_poke 24
theorem d_Ref_poke_47 : decode (jm_cod M_Ref_poke) 47 = .ok (.getfield 30, 3) := dt_Ref_poke 25
theorem d_Ref_poke_50 : decode (jm_cod M_Ref_poke) 50 = .ok (.iload_n 1, 1) := dt_Ref_poke 26
theorem d_Ref_poke_51 : decode (jm_cod M_Ref_poke) 51 = .ok (.iaload, 1) := dt_Ref_poke 27
theorem d_Ref_poke_52 : decode (jm_cod M_Ref_poke) 52 = .ok (.istore_n 3, 1) := dt_Ref_poke 28
theorem d_Ref_poke_53 : decode (jm_cod M_Ref_poke) 53 = .ok (.aload_n 0, 1) := dt_Ref_poke 29
theorem d_Ref_poke_54 : decode (jm_cod M_Ref_poke) 54 = .ok (.getfield 30, 3) := dt_Ref_poke 30
theorem d_Ref_poke_57 : decode (jm_cod M_Ref_poke) 57 = .ok (.iload_n 1, 1) := dt_Ref_poke 31
theorem d_Ref_poke_58 : decode (jm_cod M_Ref_poke) 58 = .ok (.iload_n 2, 1) := dt_Ref_poke 32
theorem d_Ref_poke_59 : decode (jm_cod M_Ref_poke) 59 = .ok (.iastore, 1) := dt_Ref_poke 33
theorem d_Ref_poke_60 : decode (jm_cod M_Ref_poke) 60 = .ok (.iload_n 3, 1) := dt_Ref_poke 34
theorem d_Ref_poke_61 : decode (jm_cod M_Ref_poke) 61 = .ok (.ireturn, 1) := dt_Ref_poke 35
def tab_Ref_peek : List (Nat × Instr × Nat) := [(0, .aload_n 0, 1), (1, .iload_n 1, 1), (2, .i2l, 1), (3, .lconst 0, 1), (4, .ldc2_w 308, 3), (7, .invokestatic 599, 3), (10, .ifCond .eq 7, 3), (13, .iconst 0, 1), (14, .goto 4, 3), (17, .iconst 1, 1), (18, .putfield 303, 3), (21, .aload_n 0, 1), (22, .getfield 303, 3), (25, .ifCond .le 7, 3), (28, .iconst 0, 1), (29, .goto 9, 3), (32, .aload_n 0, 1), (33, .getfield 30, 3), (36, .iload_n 1, 1), (37, .iaload, 1), (38, .ireturn, 1)]
theorem dt_Ref_peek (i : Nat) : decode (jm_cod M_Ref_peek) (tab_Ref_peek.getD i (0, .aload_n 0, 1)).1 = .ok ((tab_Ref_peek.getD i (0, .aload_n 0, 1)).2.1, (tab_Ref_peek.getD i (0, .aload_n 0, 1)).2.2) := j_tab (by decide +kernel) i
theorem d_Ref_peek_0 : decode (jm_cod M_Ref_peek) 0 = .ok (.aload_n 0, 1) := dt_Ref_peek 0
theorem d_Ref_peek_1 : decode (jm_cod M_Ref_peek) 1 = .ok (.iload_n 1, 1) := dt_Ref_peek 1
theorem d_Ref_peek_2 : decode (jm_cod M_Ref_peek) 2 = .ok (.i2l, 1) := dt_Ref_peek 2
theorem d_Ref_peek_3 : decode (jm_cod M_Ref_peek) 3 = .ok (.lconst 0, 1) := dt_Ref_peek 3
theorem d_Ref_peek_4 : decode (jm_cod M_Ref_peek) 4 = .ok (.ldc2_w 308, 3) := dt_Ref_peek 4
theorem d_Ref_peek_7 : decode (jm_cod M_Ref_peek) 7 = .ok (.invokestatic 599, 3) := dt_Ref_peek 5
theorem d_Ref_peek_10 : decode (jm_cod M_Ref_peek) 10 = .ok (.ifCond .eq 7, 3) := dt_Ref_peek 6
theorem d_Ref_peek_13 : decode (jm_cod M_Ref_peek) 13 = .ok (.iconst 0, 1) := dt_Ref_peek 7
theorem d_Ref_peek_14 : decode (jm_cod M_Ref_peek) 14 = .ok (.goto 4, 3) := dt_Ref_peek 8
theorem d_Ref_peek_17 : decode (jm_cod M_Ref_peek) 17 = .ok (.iconst 1, 1) := dt_Ref_peek 9
theorem d_Ref_peek_18 : decode (jm_cod M_Ref_peek) 18 = .ok (.putfield 303, 3) := dt_Ref_peek 10
theorem d_Ref_peek_21 : decode (jm_cod M_Ref_peek) 21 = .ok (.aload_n 0, 1) := dt_Ref_peek 11
theorem d_Ref_peek_22 : decode (jm_cod M_Ref_peek) 22 = .ok (.getfield 303, 3) := dt_Ref_peek 12
theorem d_Ref_peek_25 : decode (jm_cod M_Ref_peek) 25 = .ok (.ifCond .le 7, 3) := dt_Ref_peek 13
theorem d_Ref_peek_28 : decode (jm_cod M_Ref_peek) 28 = .ok (.iconst 0, 1) := dt_Ref_peek 14
theorem d_Ref_peek_29 : decode (jm_cod M_Ref_peek) 29 = .ok (.goto 9, 3) := dt_Ref_peek 15
theorem d_Ref_peek_32 : decode (jm_cod M_Ref_peek) 32 = .ok (.aload_n 0, 1) := dt_Ref_peek 16
theorem d_Ref_peek_33 : decode (jm_cod M_Ref_peek) 33 = .ok (.getfield 30, 3) := dt_Ref_peek 17
theorem d_Ref_peek_36 : decode (jm_cod M_Ref_peek) 36 = .ok (.iload_n 1, 1) := dt_Ref_peek 18
theorem d_Ref_peek_37 : decode (jm_cod M_Ref_peek) 37 = .ok (.iaload, 1) := dt_Ref_peek 19
theorem d_Ref_peek_38 : decode (jm_cod M_Ref_peek) 38 = .ok (.ireturn, 1) := dt_Ref_peek 20
def tab_Ref_request : List (Nat × Instr × Nat) := [(0, .aload_n 0, 1), (1, .getfield 337, 3), (4, .istore 7, 2), (6, .aload_n 0, 1), (7, .iload_n 1, 1), (8, .i2l, 1), (9, .lconst 0, 1), (10, .aload_n 0, 1), (11, .getfield 290, 3), (14, .i2l, 1), (15, .lconst 1, 1), (16, .lsub, 1), (17, .invokestatic 599, 3), (20, .ifCond .eq 15, 3), (23, .iload_n 3, 1), (24, .i2l, 1), (25, .lconst 0, 1), (26, .ldc2_w 308, 3), (29, .invokestatic 599, 3), (32, .ifCond .ne 7, 3), (35, .iconst 1, 1), (36, .goto 33, 3), (39, .iload_n 2, 1), (40, .i2l, 1), (41, .lconst 0, 1), (42, .ldc2_w 614, 3), (45, .invokestatic 599, 3), (48, .ifCond .eq 16, 3), (51, .iload 4, 2), (53, .i2l, 1), (54, .lconst 0, 1), (55, .ldc2_w 310, 3), (58, .invokestatic 599, 3), (61, .ifCond .ne 7, 3), (64, .iconst 2, 1), (65, .goto 4, 3), (68, .iconst 0, 1), (69, .putfield 303, 3), (72, .aload_n 0, 1), (73, .getfield 303, 3), (76, .ifCond .le 5, 3), (79, .iconst 0, 1), (80, .ireturn, 1), (81, .iload 4, 2), (83, .i2l, 1), (84, .ldc2_w 340, 3), (87, .iload_n 3, 1), (88, .i2l, 1), (89, .lmul, 1), (90, .ladd, 1), (91, .iload_n 2, 1), (92, .i2l, 1), (93, .ldc2_w 310, 3), (96, .land, 1), (97, .bipush 22, 2), (99, .lshl, 1), (100, .ladd, 1), (101, .iload_n 2, 1), (102, .iconst 4, 1), (103, .ishr, 1), (104, .i2l, 1), (105, .ldc2_w 312, 3), (108, .land, 1), (109, .bipush 26, 2), (111, .lshl, 1), (112, .ladd, 1), (113, .iload_n 2, 1), (114, .bipush 6, 2), (116, .ishr, 1), (117, .i2l, 1), (118, .ldc2_w 312, 3), (121, .land, 1), (122, .bipush 28, 2), (124, .lshl, 1), (125, .ladd, 1), (126, .iload_n 2, 1), (127, .bipush 9, 2), (129, .ishr, 1), (130, .i2l, 1), (131, .lconst 1, 1), (132, .land, 1), (133, .bipush 30, 2), (135, .lshl, 1), (136, .ladd, 1), (137, .lstore 8, 2), (139, .iload_n 2, 1), (140, .bipush 8, 2), (142, .ishr, 1), (143, .iconst 1, 1), (144, .iand, 1), (145, .iconst 1, 1), (146, .if_icmp .ne 7, 3), (149, .iconst 1, 1), (150, .goto 4, 3), (153, .iconst 0, 1), (154, .istore 10, 2), (156, .iconst 0, 1), (157, .istore 11, 2), (159, .iconst 0, 1), (160, .istore 12, 2), (162, .iload 12, 2), (164, .aload_n 0, 1), (165, .getfield 337, 3), (168, .if_icmp .ge 53, 3), (171, .iload 11, 2), (173, .aload_n 0, 1), (174, .getfield 36, 3), (177, .iload 12, 2), (179, .iaload, 1), (180, .iload_n 1, 1), (181, .if_icmp .ne 30, 3), (184, .aload_n 0, 1), (185, .getfield 48, 3), (188, .iload 12, 2), (190, .baload, 1), (191, .iload 10, 2), (193, .if_icmp .ne 18, 3), (196, .aload_n 0, 1), (197, .getfield 73, 3), (200, .iload 12, 2), (202, .iaload, 1), (203, .iconst (-1), 1), (204, .if_icmp .ne 7, 3), (207, .iconst 1, 1), (208, .goto 4, 3), (211, .iconst 0, 1), (212, .iadd, 1), (213, .istore 11, 2), (215, .iinc 12 1, 3), (218, .goto (-56), 3), (221, .aload_n 0, 1), (222, .lload 8, 2), (224, .invokestatic 419, 3), (227, .ifCond .le 7, 3), (230, .iconst 2, 1), (231, .goto 24, 3), (234, .aload_n 0, 1), (235, .getfield 337, 3), (238, .bipush 64, 2), (240, .if_icmp .eq 10, 3), (243, .iload 11, 2), (245, .bipush 8, 2), (247, .if_icmp .ne 7, 3), (250, .iconst 3, 1), (251, .goto 4, 3), (254, .iconst 0, 1), (255, .putfield 303, 3), (258, .aload_n 0, 1), (259, .getfield 303, 3), (262, .ifCond .le 5, 3), (265, .iconst 0, 1), (266, .ireturn, 1), (267, .aload_n 0, 1), (268, .getfield 36, 3), (271, .iload 7, 2), (273, .iload_n 1, 1), (274, .iastore, 1), (275, .aload_n 0, 1), (276, .getfield 39, 3), (279, .iload 7, 2), (281, .iload_n 2, 1), (282, .bipush 15, 2), (284, .iand, 1), (285, .iconst 1, 1), (286, .iadd, 1), (287, .iastore, 1), (288, .aload_n 0, 1), (289, .getfield 42, 3), (292, .iload 7, 2), (294, .iload_n 2, 1), (295, .iconst 4, 1), (296, .ishr, 1), (297, .iconst 3, 1), (298, .iand, 1), (299, .iastore, 1), (300, .aload_n 0, 1), (301, .getfield 45, 3), (304, .iload 7, 2), (306, .iload_n 2, 1), (307, .bipush 6, 2), (309, .ishr, 1), (310, .iconst 3, 1), (311, .iand, 1), (312, .iastore, 1), (313, .aload_n 0, 1), (314, .getfield 48, 3), (317, .iload 7, 2), (319, .iload 10, 2), (321, .bastore, 1), (322, .aload_n 0, 1), (323, .getfield 51, 3), (326, .iload 7, 2), (328, .iload_n 2, 1), (329, .bipush 9, 2), (331, .ishr, 1), (332, .iconst 1, 1), (333, .iand, 1), (334, .iconst 1, 1), (335, .if_icmp .ne 7, 3), (338, .iconst 1, 1), (339, .goto 4, 3), (342, .iconst 0, 1), (343, .bastore, 1), (344, .aload_n 0, 1), (345, .getfield 54, 3), (348, .iload 7, 2), (350, .iload_n 2, 1), (351, .bipush 10, 2), (353, .ishr, 1), (354, .iconst 1, 1), (355, .iand, 1), (356, .iconst 1, 1), (357, .if_icmp .ne 7, 3), (360, .iconst 1, 1), (361, .goto 4, 3), (364, .iconst 0, 1), (365, .bastore, 1), (366, .aload_n 0, 1), (367, .getfield 57, 3), (370, .iload 7, 2), (372, .iload_n 2, 1), (373, .bipush 11, 2), (375, .ishr, 1), (376, .iastore, 1), (377, .aload_n 0, 1), (378, .getfield 60, 3), (381, .iload 7, 2), (383, .iload_n 3, 1), (384, .iastore, 1), (385, .aload_n 0, 1), (386, .getfield 63, 3), (389, .iload 7, 2), (391, .iload 4, 2), (393, .iastore, 1), (394, .aload_n 0, 1), (395, .getfield 66, 3), (398, .iload 7, 2), (400, .lload 5, 2), (402, .lastore, 1), (403, .aload_n 0, 1), (404, .getfield 70, 3), (407, .iload 7, 2), (409, .aload_n 0, 1), (410, .getfield 348, 3), (413, .iastore, 1), (414, .aload_n 0, 1), (415, .getfield 73, 3), (418, .iload 7, 2), (420, .iconst (-1), 1), (421, .iastore, 1), (422, .aload_n 0, 1), (423, .getfield 76, 3), (426, .iload 7, 2), (428, .iconst (-1), 1), (429, .iastore, 1), (430, .aload_n 0, 1), (431, .getfield 79, 3), (434, .iload 7, 2), (436, .iconst 0, 1), (437, .iastore, 1), (438, .aload_n 0, 1), (439, .getfield 82, 3), (442, .iload 7, 2), (444, .iconst 0, 1), (445, .iastore, 1), (446, .aload_n 0, 1), (447, .dup, 1), (448, .getfield 337, 3), (451, .iconst 1, 1), (452, .iadd, 1), (453, .putfield 337, 3), (456, .iload 7, 2), (458, .ireturn, 1)]
theorem dt_Ref_request (i : Nat) : decode (jm_cod M_Ref_request) (tab_Ref_request.getD i (0, .aload_n 0, 1)).1 = .ok ((tab_Ref_request.getD i (0, .aload_n 0, 1)).2.1, (tab_Ref_request.getD i (0, .aload_n 0, 1)).2.2) := j_tab (by decide +kernel) i
theorem d_Ref_request_0 : decode (jm_cod M_Ref_request) 0 = .ok (.aload_n 0, 1) := dt_Ref_request 0
theorem d_Ref_request_1 : decode (jm_cod M_Ref_request) 1 = .ok (.getfield 337, 3) := dt_Ref_request 1
theorem d_Ref_request_4 : decode (jm_cod M_Ref_request) 4 = .ok (.istore 7, 2) := dt_Ref_request 2
theorem d_Ref_request_6 : decode (jm_cod M_Ref_request) 6 = .ok (.aload_n 0, 1) := dt_Ref_request 3
theorem d_Ref_request_7 : decode (jm_cod M_Ref_request) 7 = .ok (.iload_n 1, 1) := dt_Ref_request 4
theorem d_Ref_request_8 : decode (jm_cod M_Ref_request) 8 = .ok (.i2l, 1) := dt_Ref_request 5
theorem d_Ref_request_9 : decode (jm_cod M_Ref_request) 9 = .ok (.lconst 0, 1) := dt_Ref_request 6
theorem d_Ref_request_10 : decode (jm_cod M_Ref_request) 10 = .ok (.aload_n 0, 1) := dt_Ref_request 7
theorem d_Ref_request_11 : decode (jm_cod M_Ref_request) 11 = .ok (.getfield 290, 3) := dt_Ref_request 8
theorem d_Ref_request_14 : decode (jm_cod M_Ref_request) 14 = .ok (.i2l, 1) := dt_Ref_request 9
theorem d_Ref_request_15 : decode (jm_cod M_Ref_request) 15 = .ok (.lconst 1, 1) := dt_Ref_request 10
theorem d_Ref_request_16 : decode (jm_cod M_Ref_request) 16 = .ok (.lsub, 1) := dt_Ref_request 11
theorem d_Ref_request_17 : decode (jm_cod M_Ref_request) 17 = .ok (.invokestatic 599, 3) := dt_Ref_request 12
theorem d_Ref_request_20 : decode (jm_cod M_Ref_request) 20 = .ok (.ifCond .eq 15, 3) := dt_Ref_request 13
theorem d_Ref_request_23 : decode (jm_cod M_Ref_request) 23 = .ok (.iload_n 3, 1) := dt_Ref_request 14
theorem d_Ref_request_24 : decode (jm_cod M_Ref_request) 24 = .ok (.i2l, 1) := dt_Ref_request 15
theorem d_Ref_request_25 : decode (jm_cod M_Ref_request) 25 = .ok (.lconst 0, 1) := dt_Ref_request 16
theorem d_Ref_request_26 : decode (jm_cod M_Ref_request) 26 = .ok (.ldc2_w 308, 3) := dt_Ref_request 17
theorem d_Ref_request_29 : decode (jm_cod M_Ref_request) 29 = .ok (.invokestatic 599, 3) := dt_Ref_request 18
theorem d_Ref_request_32 : decode (jm_cod M_Ref_request) 32 = .ok (.ifCond .ne 7, 3) := dt_Ref_request 19
theorem d_Ref_request_35 : decode (jm_cod M_Ref_request) 35 = .ok (.iconst 1, 1) := dt_Ref_request 20
theorem d_Ref_request_36 : decode (jm_cod M_Ref_request) 36 = .ok (.goto 33, 3) := dt_Ref_request 21
theorem d_Ref_request_39 : decode (jm_cod M_Ref_request) 39 = .ok (.iload_n 2, 1) := dt_Ref_request 22
theorem d_Ref_request_40 : decode (jm_cod M_Ref_request) 40 = .ok (.i2l, 1) := dt_Ref_request 23
theorem d_Ref_request_41 : decode (jm_cod M_Ref_request) 41 = .ok (.lconst 0, 1) := dt_Ref_request 24
theorem d_Ref_request_42 : decode (jm_cod M_Ref_request) 42 = .ok (.ldc2_w 614, 3) := dt_Ref_request 25
theorem d_Ref_request_45 : decode (jm_cod M_Ref_request) 45 = .ok (.invokestatic 599, 3) := dt_Ref_request 26
theorem d_Ref_request_48 : decode (jm_cod M_Ref_request) 48 = .ok (.ifCond .eq 16, 3) := dt_Ref_request 27
theorem d_Ref_request_51 : decode (jm_cod M_Ref_request) 51 = .ok (.iload 4, 2) := dt_Ref_request 28
theorem d_Ref_request_53 : decode (jm_cod M_Ref_request) 53 = .ok (.i2l, 1) := dt_Ref_request 29
theorem d_Ref_request_54 : decode (jm_cod M_Ref_request) 54 = .ok (.lconst 0, 1) := dt_Ref_request 30
theorem d_Ref_request_55 : decode (jm_cod M_Ref_request) 55 = .ok (.ldc2_w 310, 3) := dt_Ref_request 31
theorem d_Ref_request_58 : decode (jm_cod M_Ref_request) 58 = .ok (.invokestatic 599, 3) := dt_Ref_request 32
theorem d_Ref_request_61 : decode (jm_cod M_Ref_request) 61 = .ok (.ifCond .ne 7, 3) := dt_Ref_request 33
theorem d_Ref_request_64 : decode (jm_cod M_Ref_request) 64 = .ok (.iconst 2, 1) := dt_Ref_request 34
theorem d_Ref_request_65 : decode (jm_cod M_Ref_request) 65 = .ok (.goto 4, 3) := dt_Ref_request 35
theorem d_Ref_request_68 : decode (jm_cod M_Ref_request) 68 = .ok (.iconst 0, 1) := dt_Ref_request 36
theorem d_Ref_request_69 : decode (jm_cod M_Ref_request) 69 = .ok (.putfield 303, 3) := dt_Ref_request 37
theorem d_Ref_request_72 : decode (jm_cod M_Ref_request) 72 = .ok (.aload_n 0, 1) := dt_Ref_request 38
theorem d_Ref_request_73 : decode (jm_cod M_Ref_request) 73 = .ok (.getfield 303, 3) := dt_Ref_request 39
theorem d_Ref_request_76 : decode (jm_cod M_Ref_request) 76 = .ok (.ifCond .le 5, 3) := dt_Ref_request 40
theorem d_Ref_request_79 : decode (jm_cod M_Ref_request) 79 = .ok (.iconst 0, 1) := dt_Ref_request 41
theorem d_Ref_request_80 : decode (jm_cod M_Ref_request) 80 = .ok (.ireturn, 1) := dt_Ref_request 42
theorem d_Ref_request_81 : decode (jm_cod M_Ref_request) 81 = .ok (.iload 4, 2) := dt_Ref_request 43
theorem d_Ref_request_83 : decode (jm_cod M_Ref_request) 83 = .ok (.i2l, 1) := dt_Ref_request 44
theorem d_Ref_request_84 : decode (jm_cod M_Ref_request) 84 = .ok (.ldc2_w 340, 3) := dt_Ref_request 45
theorem d_Ref_request_87 : decode (jm_cod M_Ref_request) 87 = .ok (.iload_n 3, 1) := dt_Ref_request 46
theorem d_Ref_request_88 : decode (jm_cod M_Ref_request) 88 = .ok (.i2l, 1) := dt_Ref_request 47
theorem d_Ref_request_89 : decode (jm_cod M_Ref_request) 89 = .ok (.lmul, 1) := dt_Ref_request 48
theorem d_Ref_request_90 : decode (jm_cod M_Ref_request) 90 = .ok (.ladd, 1) := dt_Ref_request 49
theorem d_Ref_request_91 : decode (jm_cod M_Ref_request) 91 = .ok (.iload_n 2, 1) := dt_Ref_request 50
theorem d_Ref_request_92 : decode (jm_cod M_Ref_request) 92 = .ok (.i2l, 1) := dt_Ref_request 51
theorem d_Ref_request_93 : decode (jm_cod M_Ref_request) 93 = .ok (.ldc2_w 310, 3) := dt_Ref_request 52
theorem d_Ref_request_96 : decode (jm_cod M_Ref_request) 96 = .ok (.land, 1) := dt_Ref_request 53
theorem d_Ref_request_97 : decode (jm_cod M_Ref_request) 97 = .ok (.bipush 22, 2) := dt_Ref_request 54
theorem d_Ref_request_99 : decode (jm_cod M_Ref_request) 99 = .ok (.lshl, 1) := dt_Ref_request 55
theorem d_Ref_request_100 : decode (jm_cod M_Ref_request) 100 = .ok (.ladd, 1) := dt_Ref_request 56
theorem d_Ref_request_101 : decode (jm_cod M_Ref_request) 101 = .ok (.iload_n 2, 1) := dt_Ref_request 57
theorem d_Ref_request_102 : decode (jm_cod M_Ref_request) 102 = .ok (.iconst 4, 1) := dt_Ref_request 58
theorem d_Ref_request_103 : decode (jm_cod M_Ref_request) 103 = .ok (.ishr, 1) := dt_Ref_request 59
theorem d_Ref_request_104 : decode (jm_cod M_Ref_request) 104 = .ok (.i2l, 1) := dt_Ref_request 60
theorem d_Ref_request_105 : decode (jm_cod M_Ref_request) 105 = .ok (.ldc2_w 312, 3) := dt_Ref_request 61
theorem d_Ref_request_108 : decode (jm_cod M_Ref_request) 108 = .ok (.land, 1) := dt_Ref_request 62
theorem d_Ref_request_109 : decode (jm_cod M_Ref_request) 109 = .ok (.bipush 26, 2) := dt_Ref_request 63
theorem d_Ref_request_111 : decode (jm_cod M_Ref_request) 111 = .ok (.lshl, 1) := dt_Ref_request 64
theorem d_Ref_request_112 : decode (jm_cod M_Ref_request) 112 = .ok (.ladd, 1) := dt_Ref_request 65
theorem d_Ref_request_113 : decode (jm_cod M_Ref_request) 113 = .ok (.iload_n 2, 1) := dt_Ref_request 66
theorem d_Ref_request_114 : decode (jm_cod M_Ref_request) 114 = .ok (.bipush 6, 2) := dt_Ref_request 67
theorem d_Ref_request_116 : decode (jm_cod M_Ref_request) 116 = .ok (.ishr, 1) := dt_Ref_request 68
theorem d_Ref_request_117 : decode (jm_cod M_Ref_request) 117 = .ok (.i2l, 1) := dt_Ref_request 69
theorem d_Ref_request_118 : decode (jm_cod M_Ref_request) 118 = .ok (.ldc2_w 312, 3) := dt_Ref_request 70
theorem d_Ref_request_121 : decode (jm_cod M_Ref_request) 121 = .ok (.land, 1) := dt_Ref_request 71
theorem d_Ref_request_122 : decode (jm_cod M_Ref_request) 122 = .ok (.bipush 28, 2) := dt_Ref_request 72
theorem d_Ref_request_124 : decode (jm_cod M_Ref_request) 124 = .ok (.lshl, 1) := dt_Ref_request 73
theorem d_Ref_request_125 : decode (jm_cod M_Ref_request) 125 = .ok (.ladd, 1) := dt_Ref_request 74
theorem d_Ref_request_126 : decode (jm_cod M_Ref_request) 126 = .ok (.iload_n 2, 1) := dt_Ref_request 75
theorem d_Ref_request_127 : decode (jm_cod M_Ref_request) 127 = .ok (.bipush 9, 2) := dt_Ref_request 76
theorem d_Ref_request_129 : decode (jm_cod M_Ref_request) 129 = .ok (.ishr, 1) := dt_Ref_request 77
theorem d_Ref_request_130 : decode (jm_cod M_Ref_request) 130 = .ok (.i2l, 1) := dt_Ref_request 78
theorem d_Ref_request_131 : decode (jm_cod M_Ref_request) 131 = .ok (.lconst 1, 1) := dt_Ref_request 79
theorem d_Ref_request_132 : decode (jm_cod M_Ref_request) 132 = .ok (.land, 1) := dt_Ref_request 80
theorem d_Ref_request_133 : decode (jm_cod M_Ref_request) 133 = .ok (.bipush 30, 2) := dt_Ref_request 81
theorem d_Ref_request_135 : decode (jm_cod M_Ref_request) 135 = .ok (.lshl, 1) := dt_Ref_request 82
theorem d_Ref_request_136 : decode (jm_cod M_Ref_request) 136 = .ok (.ladd, 1) := dt_Ref_request 83
theorem d_Ref_request_137 : decode (jm_cod M_Ref_request) 137 = .ok (.lstore 8, 2) := dt_Ref_request 84
theorem d_Ref_request_139 : decode (jm_cod M_Ref_request) 139 = .ok (.iload_n 2, 1) := dt_Ref_request 85
theorem d_Ref_request_140 : decode (jm_cod M_Ref_request) 140 = .ok (.bipush 8, 2) := dt_Ref_request 86
theorem d_Ref_request_142 : decode (jm_cod M_Ref_request) 142 = .ok (.ishr, 1) := dt_Ref_request 87
theorem d_Ref_request_143 : decode (jm_cod M_Ref_request) 143 = .ok (.iconst 1, 1) := dt_Ref_request 88
theorem d_Ref_request_144 : decode (jm_cod M_Ref_request) 144 = .ok (.iand, 1) := dt_Ref_request 89
theorem d_Ref_request_145 : decode (jm_cod M_Ref_request) 145 = .ok (.iconst 1, 1) := dt_Ref_request 90
theorem d_Ref_request_146 : decode (jm_cod M_Ref_request) 146 = .ok (.if_icmp .ne 7, 3) := dt_Ref_request 91
theorem d_Ref_request_149 : decode (jm_cod M_Ref_request) 149 = .ok (.iconst 1, 1) := dt_Ref_request 92
theorem d_Ref_request_150 : decode (jm_cod M_Ref_request) 150 = .ok (.goto 4, 3) := dt_Ref_request 93
theorem d_Ref_request_153 : decode (jm_cod M_Ref_request) 153 = .ok (.iconst 0, 1) := dt_Ref_request 94
theorem d_Ref_request_154 : decode (jm_cod M_Ref_request) 154 = .ok (.istore 10, 2) := dt_Ref_request 95
theorem d_Ref_request_156 : decode (jm_cod M_Ref_request) 156 = .ok (.iconst 0, 1) := dt_Ref_request 96
theorem d_Ref_request_157 : decode (jm_cod M_Ref_request) 157 = .ok (.istore 11, 2) := dt_Ref_request 97
theorem d_Ref_request_159 : decode (jm_cod M_Ref_request) 159 = .ok (.iconst 0, 1) := dt_Ref_request 98
theorem d_Ref_request_160 : decode (jm_cod M_Ref_request) 160 = .ok (.istore 12, 2) := dt_Ref_request 99
theorem d_Ref_request_162 : decode (jm_cod M_Ref_request) 162 = .ok (.iload 12, 2) := dt_Ref_request 100
theorem d_Ref_request_164 : decode (jm_cod M_Ref_request) 164 = .ok (.aload_n 0, 1) := dt_Ref_request 101
theorem d_Ref_request_165 : decode (jm_cod M_Ref_request) 165 = .ok (.getfield 337, 3) := dt_Ref_request 102
theorem d_Ref_request_168 : decode (jm_cod M_Ref_request) 168 = .ok (.if_icmp .ge 53, 3) := dt_Ref_request 103
theorem d_Ref_request_171 : decode (jm_cod M_Ref_request) 171 = .ok (.iload 11, 2) := dt_Ref_request 104
theorem d_Ref_request_173 : decode (jm_cod M_Ref_request) 173 = .ok (.aload_n 0, 1) := dt_Ref_request 105
theorem d_Ref_request_174 : decode (jm_cod M_Ref_request) 174 = .ok (.getfield 36, 3) := dt_Ref_request 106
theorem d_Ref_request_177 : decode (jm_cod M_Ref_request) 177 = .ok (.iload 12, 2) := dt_Ref_request 107
theorem d_Ref_request_179 : decode (jm_cod M_Ref_request) 179 = .ok (.iaload, 1) := dt_Ref_request 108
theorem d_Ref_request_180 : decode (jm_cod M_Ref_request) 180 = .ok (.iload_n 1, 1) := dt_Ref_request 109
theorem d_Ref_request_181 : decode (jm_cod M_Ref_request) 181 = .ok (.if_icmp .ne 30, 3) := dt_Ref_request 110
theorem d_Ref_request_184 : decode (jm_cod M_Ref_request) 184 = .ok (.aload_n 0, 1) := dt_Ref_request 111
theorem d_Ref_request_185 : decode (jm_cod M_Ref_request) 185 = .ok (.getfield 48, 3) := dt_Ref_request 112
theorem d_Ref_request_188 : decode (jm_cod M_Ref_request) 188 = .ok (.iload 12, 2) := dt_Ref_request 113
theorem d_Ref_request_190 : decode (jm_cod M_Ref_request) 190 = .ok (.baload, 1) := dt_Ref_request 114
theorem d_Ref_request_191 : decode (jm_cod M_Ref_request) 191 = .ok (.iload 10, 2) := dt_Ref_request 115
theorem d_Ref_request_193 : decode (jm_cod M_Ref_request) 193 = .ok (.if_icmp .ne 18, 3) := dt_Ref_request 116
theorem d_Ref_request_196 : decode (jm_cod M_Ref_request) 196 = .ok (.aload_n 0, 1) := dt_Ref_request 117
theorem d_Ref_request_197 : decode (jm_cod M_Ref_request) 197 = .ok (.getfield 73, 3) := dt_Ref_request 118
theorem d_Ref_request_200 : decode (jm_cod M_Ref_request) 200 = .ok (.iload 12, 2) := dt_Ref_request 119
theorem d_Ref_request_202 : decode (jm_cod M_Ref_request) 202 = .ok (.iaload, 1) := dt_Ref_request 120
theorem d_Ref_request_203 : decode (jm_cod M_Ref_request) 203 = .ok (.iconst (-1), 1) := dt_Ref_request 121
theorem d_Ref_request_204 : decode (jm_cod M_Ref_request) 204 = .ok (.if_icmp .ne 7, 3) := dt_Ref_request 122
theorem d_Ref_request_207 : decode (jm_cod M_Ref_request) 207 = .ok (.iconst 1, 1) := dt_Ref_request 123
theorem d_Ref_request_208 : decode (jm_cod M_Ref_request) 208 = .ok (.goto 4, 3) := dt_Ref_request 124
theorem d_Ref_request_211 : decode (jm_cod M_Ref_request) 211 = .ok (.iconst 0, 1) := dt_Ref_request 125
theorem d_Ref_request_212 : decode (jm_cod M_Ref_request) 212 = .ok (.iadd, 1) := dt_Ref_request 126
theorem d_Ref_request_213 : decode (jm_cod M_Ref_request) 213 = .ok (.istore 11, 2) := dt_Ref_request 127
theorem d_Ref_request_215 : decode (jm_cod M_Ref_request) 215 = .ok (.iinc 12 1, 3) := dt_Ref_request 128
theorem d_Ref_request_218 : decode (jm_cod M_Ref_request) 218 = .ok (.goto (-56), 3) := dt_Ref_request 129
theorem d_Ref_request_221 : decode (jm_cod M_Ref_request) 221 = .ok (.aload_n 0, 1) := dt_Ref_request 130
theorem d_Ref_request_222 : decode (jm_cod M_Ref_request) 222 = .ok (.lload 8, 2) := dt_Ref_request 131
theorem d_Ref_request_224 : decode (jm_cod M_Ref_request) 224 = .ok (.invokestatic 419, 3) := dt_Ref_request 132
theorem d_Ref_request_227 : decode (jm_cod M_Ref_request) 227 = .ok (.ifCond .le 7, 3) := dt_Ref_request 133
theorem d_Ref_request_230 : decode (jm_cod M_Ref_request) 230 = .ok (.iconst 2, 1) := dt_Ref_request 134
theorem d_Ref_request_231 : decode (jm_cod M_Ref_request) 231 = .ok (.goto 24, 3) := dt_Ref_request 135
theorem d_Ref_request_234 : decode (jm_cod M_Ref_request) 234 = .ok (.aload_n 0, 1) := dt_Ref_request 136
theorem d_Ref_request_235 : decode (jm_cod M_Ref_request) 235 = .ok (.getfield 337, 3) := dt_Ref_request 137
theorem d_Ref_request_238 : decode (jm_cod M_Ref_request) 238 = .ok (.bipush 64, 2) := dt_Ref_request 138
theorem d_Ref_request_240 : decode (jm_cod M_Ref_request) 240 = .ok (.if_icmp .eq 10, 3) := dt_Ref_request 139
theorem d_Ref_request_243 : decode (jm_cod M_Ref_request) 243 = .ok (.iload 11, 2) := dt_Ref_request 140
theorem d_Ref_request_245 : decode (jm_cod M_Ref_request) 245 = .ok (.bipush 8, 2) := dt_Ref_request 141
theorem d_Ref_request_247 : decode (jm_cod M_Ref_request) 247 = .ok (.if_icmp .ne 7, 3) := dt_Ref_request 142
theorem d_Ref_request_250 : decode (jm_cod M_Ref_request) 250 = .ok (.iconst 3, 1) := dt_Ref_request 143
theorem d_Ref_request_251 : decode (jm_cod M_Ref_request) 251 = .ok (.goto 4, 3) := dt_Ref_request 144
theorem d_Ref_request_254 : decode (jm_cod M_Ref_request) 254 = .ok (.iconst 0, 1) := dt_Ref_request 145
theorem d_Ref_request_255 : decode (jm_cod M_Ref_request) 255 = .ok (.putfield 303, 3) := dt_Ref_request 146
theorem d_Ref_request_258 : decode (jm_cod M_Ref_request) 258 = .ok (.aload_n 0, 1) := dt_Ref_request 147
theorem d_Ref_request_259 : decode (jm_cod M_Ref_request) 259 = .ok (.getfield 303, 3) := dt_Ref_request 148
theorem d_Ref_request_262 : decode (jm_cod M_Ref_request) 262 = .ok (.ifCond .le 5, 3) := dt_Ref_request 149
theorem d_Ref_request_265 : decode (jm_cod M_Ref_request) 265 = .ok (.iconst 0, 1) := dt_Ref_request 150
theorem d_Ref_request_266 : decode (jm_cod M_Ref_request) 266 = .ok (.ireturn, 1) := dt_Ref_request 151
theorem d_Ref_request_267 : decode (jm_cod M_Ref_request) 267 = .ok (.aload_n 0, 1) := dt_Ref_request 152
theorem d_Ref_request_268 : decode (jm_cod M_Ref_request) 268 = .ok (.getfield 36, 3) := dt_Ref_request 153
theorem d_Ref_request_271 : decode (jm_cod M_Ref_request) 271 = .ok (.iload 7, 2) := dt_Ref_request 154
theorem d_Ref_request_273 : decode (jm_cod M_Ref_request) 273 = .ok (.iload_n 1, 1) := dt_Ref_request 155
theorem d_Ref_request_274 : decode (jm_cod M_Ref_request) 274 = .ok (.iastore, 1) := dt_Ref_request 156
theorem d_Ref_request_275 : decode (jm_cod M_Ref_request) 275 = .ok (.aload_n 0, 1) := dt_Ref_request 157
theorem d_Ref_request_276 : decode (jm_cod M_Ref_request) 276 = .ok (.getfield 39, 3) := dt_Ref_request 158
theorem d_Ref_request_279 : decode (jm_cod M_Ref_request) 279 = .ok (.iload 7, 2) := dt_Ref_request 159
theorem d_Ref_request_281 : decode (jm_cod M_Ref_request) 281 = .ok (.iload_n 2, 1) := dt_Ref_request 160
theorem d_Ref_request_282 : decode (jm_cod M_Ref_request) 282 = .ok (.bipush 15, 2) := dt_Ref_request 161
theorem d_Ref_request_284 : decode (jm_cod M_Ref_request) 284 = .ok (.iand, 1) := dt_Ref_request 162
theorem d_Ref_request_285 : decode (jm_cod M_Ref_request) 285 = .ok (.iconst 1, 1) := dt_Ref_request 163
theorem d_Ref_request_286 : decode (jm_cod M_Ref_request) 286 = .ok (.iadd, 1) := dt_Ref_request 164
theorem d_Ref_request_287 : decode (jm_cod M_Ref_request) 287 = .ok (.iastore, 1) := dt_Ref_request 165
theorem d_Ref_request_288 : decode (jm_cod M_Ref_request) 288 = .ok (.aload_n 0, 1) := dt_Ref_request 166
theorem d_Ref_request_289 : decode (jm_cod M_Ref_request) 289 = .ok (.getfield 42, 3) := dt_Ref_request 167
theorem d_Ref_request_292 : decode (jm_cod M_Ref_request) 292 = .ok (.iload 7, 2) := dt_Ref_request 168
theorem d_Ref_request_294 : decode (jm_cod M_Ref_request) 294 = .ok (.iload_n 2, 1) := dt_Ref_request 169
theorem d_Ref_request_295 : decode (jm_cod M_Ref_request) 295 = .ok (.iconst 4, 1) := dt_Ref_request 170
theorem d_Ref_request_296 : decode (jm_cod M_Ref_request) 296 = .ok (.ishr, 1) := dt_Ref_request 171
theorem d_Ref_request_297 : decode (jm_cod M_Ref_request) 297 = .ok (.iconst 3, 1) := dt_Ref_request 172
theorem d_Ref_request_298 : decode (jm_cod M_Ref_request) 298 = .ok (.iand, 1) := dt_Ref_request 173
theorem d_Ref_request_299 : decode (jm_cod M_Ref_request) 299 = .ok (.iastore, 1) := dt_Ref_request 174
theorem d_Ref_request_300 : decode (jm_cod M_Ref_request) 300 = .ok (.aload_n 0, 1) := dt_Ref_request 175
theorem d_Ref_request_301 : decode (jm_cod M_Ref_request) 301 = .ok (.getfield 45, 3) := dt_Ref_request 176
theorem d_Ref_request_304 : decode (jm_cod M_Ref_request) 304 = .ok (.iload 7, 2) := dt_Ref_request 177
theorem d_Ref_request_306 : decode (jm_cod M_Ref_request) 306 = .ok (.iload_n 2, 1) := dt_Ref_request 178
theorem d_Ref_request_307 : decode (jm_cod M_Ref_request) 307 = .ok (.bipush 6, 2) := dt_Ref_request 179
theorem d_Ref_request_309 : decode (jm_cod M_Ref_request) 309 = .ok (.ishr, 1) := dt_Ref_request 180
theorem d_Ref_request_310 : decode (jm_cod M_Ref_request) 310 = .ok (.iconst 3, 1) := dt_Ref_request 181
theorem d_Ref_request_311 : decode (jm_cod M_Ref_request) 311 = .ok (.iand, 1) := dt_Ref_request 182
theorem d_Ref_request_312 : decode (jm_cod M_Ref_request) 312 = .ok (.iastore, 1) := dt_Ref_request 183
theorem d_Ref_request_313 : decode (jm_cod M_Ref_request) 313 = .ok (.aload_n 0, 1) := dt_Ref_request 184
theorem d_Ref_request_314 : decode (jm_cod M_Ref_request) 314 = .ok (.getfield 48, 3) := dt_Ref_request 185
theorem d_Ref_request_317 : decode (jm_cod M_Ref_request) 317 = .ok (.iload 7, 2) := dt_Ref_request 186
theorem d_Ref_request_319 : decode (jm_cod M_Ref_request) 319 = .ok (.iload 10, 2) := dt_Ref_request 187
theorem d_Ref_request_321 : decode (jm_cod M_Ref_request) 321 = .ok (.bastore, 1) := dt_Ref_request 188
theorem d_Ref_request_322 : decode (jm_cod M_Ref_request) 322 = .ok (.aload_n 0, 1) := dt_Ref_request 189
theorem d_Ref_request_323 : decode (jm_cod M_Ref_request) 323 = .ok (.getfield 51, 3) := dt_Ref_request 190
theorem d_Ref_request_326 : decode (jm_cod M_Ref_request) 326 = .ok (.iload 7, 2) := dt_Ref_request 191
theorem d_Ref_request_328 : decode (jm_cod M_Ref_request) 328 = .ok (.iload_n 2, 1) := dt_Ref_request 192
theorem d_Ref_request_329 : decode (jm_cod M_Ref_request) 329 = .ok (.bipush 9, 2) := dt_Ref_request 193
theorem d_Ref_request_331 : decode (jm_cod M_Ref_request) 331 = .ok (.ishr, 1) := dt_Ref_request 194
theorem d_Ref_request_332 : decode (jm_cod M_Ref_request) 332 = .ok (.iconst 1, 1) := dt_Ref_request 195
theorem d_Ref_request_333 : decode (jm_cod M_Ref_request) 333 = .ok (.iand, 1) := dt_Ref_request 196
theorem d_Ref_request_334 : decode (jm_cod M_Ref_request) 334 = .ok (.iconst 1, 1) := dt_Ref_request 197
theorem d_Ref_request_335 : decode (jm_cod M_Ref_request) 335 = .ok (.if_icmp .ne 7, 3) := dt_Ref_request 198
theorem d_Ref_request_338 : decode (jm_cod M_Ref_request) 338 = .ok (.iconst 1, 1) := dt_Ref_request 199
theorem d_Ref_request_339 : decode (jm_cod M_Ref_request) 339 = .ok (.goto 4, 3) := dt_Ref_request 200
theorem d_Ref_request_342 : decode (jm_cod M_Ref_request) 342 = .ok (.iconst 0, 1) := dt_Ref_request 201
theorem d_Ref_request_343 : decode (jm_cod M_Ref_request) 343 = .ok (.bastore, 1) := dt_Ref_request 202
theorem d_Ref_request_344 : decode (jm_cod M_Ref_request) 344 = .ok (.aload_n 0, 1) := dt_Ref_request 203
theorem d_Ref_request_345 : decode (jm_cod M_Ref_request) 345 = .ok (.getfield 54, 3) := dt_Ref_request 204
theorem d_Ref_request_348 : decode (jm_cod M_Ref_request) 348 = .ok (.iload 7, 2) := dt_Ref_request 205
theorem d_Ref_request_350 : decode (jm_cod M_Ref_request) 350 = .ok (.iload_n 2, 1) := dt_Ref_request 206
theorem d_Ref_request_351 : decode (jm_cod M_Ref_request) 351 = .ok (.bipush 10, 2) := dt_Ref_request 207
theorem d_Ref_request_353 : decode (jm_cod M_Ref_request) 353 = .ok (.ishr, 1) := dt_Ref_request 208
theorem d_Ref_request_354 : decode (jm_cod M_Ref_request) 354 = .ok (.iconst 1, 1) := dt_Ref_request 209
theorem d_Ref_request_355 : decode (jm_cod M_Ref_request) 355 = .ok (.iand, 1) := dt_Ref_request 210
theorem d_Ref_request_356 : decode (jm_cod M_Ref_request) 356 = .ok (.iconst 1, 1) := dt_Ref_request 211
theorem d_Ref_request_357 : decode (jm_cod M_Ref_request) 357 = .ok (.if_icmp .ne 7, 3) := dt_Ref_request 212
theorem d_Ref_request_360 : decode (jm_cod M_Ref_request) 360 = .ok (.iconst 1, 1) := dt_Ref_request 213
theorem d_Ref_request_361 : decode (jm_cod M_Ref_request) 361 = .ok (.goto 4, 3) := dt_Ref_request 214
theorem d_Ref_request_364 : decode (jm_cod M_Ref_request) 364 = .ok (.iconst 0, 1) := dt_Ref_request 215
theorem d_Ref_request_365 : decode (jm_cod M_Ref_request) 365 = .ok (.bastore, 1) := dt_Ref_request 216
theorem d_Ref_request_366 : decode (jm_cod M_Ref_request) 366 = .ok (.aload_n 0, 1) := dt_Ref_request 217
theorem d_Ref_request_367 : decode (jm_cod M_Ref_request) 367 = .ok (.getfield 57, 3) := dt_Ref_request 218
theorem d_Ref_request_370 : decode (jm_cod M_Ref_request) 370 = .ok (.iload 7, 2) := dt_Ref_request 219
theorem d_Ref_request_372 : decode (jm_cod M_Ref_request) 372 = .ok (.iload_n 2, 1) := dt_Ref_request 220
theorem d_Ref_request_373 : decode (jm_cod M_Ref_request) 373 = .ok (.bipush 11, 2) := dt_Ref_request 221
theorem d_Ref_request_375 : decode (jm_cod M_Ref_request) 375 = .ok (.ishr, 1) := dt_Ref_request 222
theorem d_Ref_request_376 : decode (jm_cod M_Ref_request) 376 = .ok (.iastore, 1) := dt_Ref_request 223
theorem d_Ref_request_377 : decode (jm_cod M_Ref_request) 377 = .ok (.aload_n 0, 1) := dt_Ref_request 224
theorem d_Ref_request_378 : decode (jm_cod M_Ref_request) 378 = .ok (.getfield 60, 3) := dt_Ref_request 225
theorem d_Ref_request_381 : decode (jm_cod M_Ref_request) 381 = .ok (.iload 7, 2) := dt_Ref_request 226
theorem d_Ref_request_383 : decode (jm_cod M_Ref_request) 383 = .ok (.iload_n 3, 1) := dt_Ref_request 227
theorem d_Ref_request_384 : decode (jm_cod M_Ref_request) 384 = .ok (.iastore, 1) := dt_Ref_request 228
theorem d_Ref_request_385 : decode (jm_cod M_Ref_request) 385 = .ok (.aload_n 0, 1) := dt_Ref_request 229
theorem d_Ref_request_386 : decode (jm_cod M_Ref_request) 386 = .ok (.getfield 63, 3) := dt_Ref_request 230
theorem d_Ref_request_389 : decode (jm_cod M_Ref_request) 389 = .ok (.iload 7, 2) := dt_Ref_request 231
theorem d_Ref_request_391 : decode (jm_cod M_Ref_request) 391 = .ok (.iload 4, 2) := dt_Ref_request 232
theorem d_Ref_request_393 : decode (jm_cod M_Ref_request) 393 = .ok (.iastore, 1) := dt_Ref_request 233
theorem d_Ref_request_394 : decode (jm_cod M_Ref_request) 394 = .ok (.aload_n 0, 1) := dt_Ref_request 234
theorem d_Ref_request_395 : decode (jm_cod M_Ref_request) 395 = .ok (.getfield 66, 3) := dt_Ref_request 235
theorem d_Ref_request_398 : decode (jm_cod M_Ref_request) 398 = .ok (.iload 7, 2) := dt_Ref_request 236
theorem d_Ref_request_400 : decode (jm_cod M_Ref_request) 400 = .ok (.lload 5, 2) := dt_Ref_request 237
theorem d_Ref_request_402 : decode (jm_cod M_Ref_request) 402 = .ok (.lastore, 1) := dt_Ref_request 238
theorem d_Ref_request_403 : decode (jm_cod M_Ref_request) 403 = .ok (.aload_n 0, 1) := dt_Ref_request 239
theorem d_Ref_request_404 : decode (jm_cod M_Ref_request) 404 = .ok (.getfield 70, 3) := dt_Ref_request 240
theorem d_Ref_request_407 : decode (jm_cod M_Ref_request) 407 = .ok (.iload 7, 2) := dt_Ref_request 241
theorem d_Ref_request_409 : decode (jm_cod M_Ref_request) 409 = .ok (.aload_n 0, 1) := dt_Ref_request 242
theorem d_Ref_request_410 : decode (jm_cod M_Ref_request) 410 = .ok (.getfield 348, 3) := dt_Ref_request 243
theorem d_Ref_request_413 : decode (jm_cod M_Ref_request) 413 = .ok (.iastore, 1) := dt_Ref_request 244
theorem d_Ref_request_414 : decode (jm_cod M_Ref_request) 414 = .ok (.aload_n 0, 1) := dt_Ref_request 245
theorem d_Ref_request_415 : decode (jm_cod M_Ref_request) 415 = .ok (.getfield 73, 3) := dt_Ref_request 246
theorem d_Ref_request_418 : decode (jm_cod M_Ref_request) 418 = .ok (.iload 7, 2) := dt_Ref_request 247
theorem d_Ref_request_420 : decode (jm_cod M_Ref_request) 420 = .ok (.iconst (-1), 1) := dt_Ref_request 248
theorem d_Ref_request_421 : decode (jm_cod M_Ref_request) 421 = .ok (.iastore, 1) := dt_Ref_request 249
theorem d_Ref_request_422 : decode (jm_cod M_Ref_request) 422 = .ok (.aload_n 0, 1) := dt_Ref_request 250
theorem d_Ref_request_423 : decode (jm_cod M_Ref_request) 423 = .ok (.getfield 76, 3) := dt_Ref_request 251
theorem d_Ref_request_426 : decode (jm_cod M_Ref_request) 426 = .ok (.iload 7, 2) := dt_Ref_request 252
theorem d_Ref_request_428 : decode (jm_cod M_Ref_request) 428 = .ok (.iconst (-1), 1) := dt_Ref_request 253
theorem d_Ref_request_429 : decode (jm_cod M_Ref_request) 429 = .ok (.iastore, 1) := dt_Ref_request 254
theorem d_Ref_request_430 : decode (jm_cod M_Ref_request) 430 = .ok (.aload_n 0, 1) := dt_Ref_request 255
theorem d_Ref_request_431 : decode (jm_cod M_Ref_request) 431 = .ok (.getfield 79, 3) := dt_Ref_request 256
theorem d_Ref_request_434 : decode (jm_cod M_Ref_request) 434 = .ok (.iload 7, 2) := dt_Ref_request 257
theorem d_Ref_request_436 : decode (jm_cod M_Ref_request) 436 = .ok (.iconst 0, 1) := dt_Ref_request 258
theorem d_Ref_request_437 : decode (jm_cod M_Ref_request) 437 = .ok (.iastore, 1) := dt_Ref_request 259
theorem d_Ref_request_438 : decode (jm_cod M_Ref_request) 438 = .ok (.aload_n 0, 1) := dt_Ref_request 260
theorem d_Ref_request_439 : decode (jm_cod M_Ref_request) 439 = .ok (.getfield 82, 3) := dt_Ref_request 261
theorem d_Ref_request_442 : decode (jm_cod M_Ref_request) 442 = .ok (.iload 7, 2) := dt_Ref_request 262
theorem d_Ref_request_444 : decode (jm_cod M_Ref_request) 444 = .ok (.iconst 0, 1) := dt_Ref_request 263
theorem d_Ref_request_445 : decode (jm_cod M_Ref_request) 445 = .ok (.iastore, 1) := dt_Ref_request 264
theorem d_Ref_request_446 : decode (jm_cod M_Ref_request) 446 = .ok (.aload_n 0, 1) := dt_Ref_request 265
theorem d_Ref_request_447 : decode (jm_cod M_Ref_request) 447 = .ok (.dup, 1) := dt_Ref_request 266
theorem d_Ref_request_448 : decode (jm_cod M_Ref_request) 448 = .ok (.getfield 337, 3) := dt_Ref_request 267
theorem d_Ref_request_451 : decode (jm_cod M_Ref_request) 451 = .ok (.iconst 1, 1) := dt_Ref_request 268
theorem d_Ref_request_452 : decode (jm_cod M_Ref_request) 452 = .ok (.iadd, 1) := dt_Ref_request 269
theorem d_Ref_request_453 : decode (jm_cod M_Ref_request) 453 = .ok (.putfield 337, 3) := dt_Ref_request 270
theorem d_Ref_request_456 : decode (jm_cod M_Ref_request) 456 = .ok (.iload 7, 2) := dt_Ref_request 271
theorem d_Ref_request_458 : decode (jm_cod M_Ref_request) 458 = .ok (.ireturn, 1) := dt_Ref_request 272
def tab_Ref_breaks : List (Nat × Instr × Nat) := [(0, .lload_n 0, 1), (1, .invokestatic 321, 3), (4, .istore_n 2, 1), (5, .lload_n 0, 1), (6, .invokestatic 318, 3), (9, .istore_n 3, 1), (10, .lload_n 0, 1), (11, .invokestatic 314, 3), (14, .istore 4, 2), (16, .iload_n 2, 1), (17, .iload_n 3, 1), (18, .imul, 1), (19, .istore 5, 2), (21, .lload_n 0, 1), (22, .invokestatic 324, 3), (25, .iconst 3, 1), (26, .if_icmp .ne 5, 3), (29, .iconst 3, 1), (30, .ireturn, 1), (31, .lload_n 0, 1), (32, .invokestatic 324, 3), (35, .iconst 2, 1), (36, .if_icmp .ne 34, 3), (39, .iload_n 2, 1), (40, .iconst 2, 1), (41, .if_icmp .eq 20, 3), (44, .iload_n 2, 1), (45, .iconst 4, 1), (46, .if_icmp .eq 15, 3), (49, .iload_n 2, 1), (50, .bipush 8, 2), (52, .if_icmp .eq 9, 3), (55, .iload_n 2, 1), (56, .bipush 16, 2), (58, .if_icmp .ne 10, 3), (61, .iload 4, 2), (63, .iload_n 3, 1), (64, .irem, 1), (65, .ifCond .eq 5, 3), (68, .iconst 4, 1), (69, .ireturn, 1), (70, .lload_n 0, 1), (71, .invokestatic 324, 3), (74, .iconst 1, 1), (75, .if_icmp .ne 30, 3), (78, .iload 4, 2), (80, .iload 4, 2), (82, .iload_n 3, 1), (83, .irem, 1), (84, .isub, 1), (85, .iload 5, 2), (87, .iadd, 1), (88, .iconst 1, 1), (89, .isub, 1), (90, .sipush 4096, 3), (93, .idiv, 1), (94, .iload 4, 2), (96, .sipush 4096, 3), (99, .idiv, 1), (100, .if_icmp .eq 5, 3), (103, .iconst 5, 1), (104, .ireturn, 1), (105, .iload 5, 2), (107, .iload 5, 2), (109, .iconst 1, 1), (110, .isub, 1), (111, .iand, 1), (112, .ifCond .ne 7, 3), (115, .iconst 1, 1), (116, .goto 4, 3), (119, .iconst 0, 1), (120, .istore 6, 2), (122, .lload_n 0, 1), (123, .invokestatic 329, 3), (126, .ifCond .eq 36, 3), (129, .lload_n 0, 1), (130, .invokestatic 324, 3), (133, .ifCond .eq 24, 3), (136, .iload 6, 2), (138, .ifCond .eq 19, 3), (141, .iload 5, 2), (143, .sipush 128, 3), (146, .if_icmp .gt 11, 3), (149, .iload 4, 2), (151, .iload 5, 2), (153, .irem, 1), (154, .ifCond .eq 8, 3), (157, .bipush 6, 2), (159, .goto 4, 3), (162, .iconst 0, 1), (163, .ireturn, 1)]
theorem dt_Ref_breaks (i : Nat) : decode (jm_cod M_Ref_breaks) (tab_Ref_breaks.getD i (0, .lload_n 0, 1)).1 = .ok ((tab_Ref_breaks.getD i (0, .lload_n 0, 1)).2.1, (tab_Ref_breaks.getD i (0, .lload_n 0, 1)).2.2) := j_tab (by decide +kernel) i
theorem d_Ref_breaks_0 : decode (jm_cod M_Ref_breaks) 0 = .ok (.lload_n 0, 1) := dt_Ref_breaks 0
theorem d_Ref_breaks_1 : decode (jm_cod M_Ref_breaks) 1 = .ok (.invokestatic 321, 3) := dt_Ref_breaks 1
theorem d_Ref_breaks_4 : decode (jm_cod M_Ref_breaks) 4 = .ok (.istore_n 2, 1) := dt_Ref_breaks 2
theorem d_Ref_breaks_5 : decode (jm_cod M_Ref_breaks) 5 = .ok (.lload_n 0, 1) := dt_Ref_breaks 3
theorem d_Ref_breaks_6 : decode (jm_cod M_Ref_breaks) 6 = .ok (.invokestatic 318, 3) := dt_Ref_breaks 4
theorem d_Ref_breaks_9 : decode (jm_cod M_Ref_breaks) 9 = .ok (.istore_n 3, 1) := dt_Ref_breaks 5
theorem d_Ref_breaks_10 : decode (jm_cod M_Ref_breaks) 10 = .ok (.lload_n 0, 1) := dt_Ref_breaks 6
theorem d_Ref_breaks_11 : decode (jm_cod M_Ref_breaks) 11 = .ok (.invokestatic 314, 3) := dt_Ref_breaks 7
theorem d_Ref_breaks_14 : decode (jm_cod M_Ref_breaks) 14 = .ok (.istore 4, 2) := dt_Ref_breaks 8
theorem d_Ref_breaks_16 : decode (jm_cod M_Ref_breaks) 16 = .ok (.iload_n 2, 1) := dt_Ref_breaks 9
theorem d_Ref_breaks_17 : decode (jm_cod M_Ref_breaks) 17 = .ok (.iload_n 3, 1) := dt_Ref_breaks 10
theorem d_Ref_breaks_18 : decode (jm_cod M_Ref_breaks) 18 = .ok (.imul, 1) := dt_Ref_breaks 11
theorem d_Ref_breaks_19 : decode (jm_cod M_Ref_breaks) 19 = .ok (.istore 5, 2) := dt_Ref_breaks 12
theorem d_Ref_breaks_21 : decode (jm_cod M_Ref_breaks) 21 = .ok (.lload_n 0, 1) := dt_Ref_breaks 13
theorem d_Ref_breaks_22 : decode (jm_cod M_Ref_breaks) 22 = .ok (.invokestatic 324, 3) := dt_Ref_breaks 14
theorem d_Ref_breaks_25 : decode (jm_cod M_Ref_breaks) 25 = .ok (.iconst 3, 1) := dt_Ref_breaks 15
theorem d_Ref_breaks_26 : decode (jm_cod M_Ref_breaks) 26 = .ok (.if_icmp .ne 5, 3) := dt_Ref_breaks 16
theorem d_Ref_breaks_29 : decode (jm_cod M_Ref_breaks) 29 = .ok (.iconst 3, 1) := dt_Ref_breaks 17
theorem d_Ref_breaks_30 : decode (jm_cod M_Ref_breaks) 30 = .ok (.ireturn, 1) := dt_Ref_breaks 18
theorem d_Ref_breaks_31 : decode (jm_cod M_Ref_breaks) 31 = .ok (.lload_n 0, 1) := dt_Ref_breaks 19
theorem d_Ref_breaks_32 : decode (jm_cod M_Ref_breaks) 32 = .ok (.invokestatic 324, 3) := dt_Ref_breaks 20
theorem d_Ref_breaks_35 : decode (jm_cod M_Ref_breaks) 35 = .ok (.iconst 2, 1) := dt_Ref_breaks 21
theorem d_Ref_breaks_36 : decode (jm_cod M_Ref_breaks) 36 = .ok (.if_icmp .ne 34, 3) := dt_Ref_breaks 22
theorem d_Ref_breaks_39 : decode (jm_cod M_Ref_breaks) 39 = .ok (.iload_n 2, 1) := dt_Ref_breaks 23
theorem d_Ref_breaks_40 : decode (jm_cod M_Ref_breaks) 40 = .ok (.iconst 2, 1) := dt_Ref_breaks 24
theorem d_Ref_breaks_41 : decode (jm_cod M_Ref_breaks) 41 = .ok (.if_icmp .eq 20, 3) := dt_Ref_breaks 25
theorem d_Ref_breaks_44 : decode (jm_cod M_Ref_breaks) 44 = .ok (.iload_n 2, 1) := dt_Ref_breaks 26
theorem d_Ref_breaks_45 : decode (jm_cod M_Ref_breaks) 45 = .ok (.iconst 4, 1) := dt_Ref_breaks 27
theorem d_Ref_breaks_46 : decode (jm_cod M_Ref_breaks) 46 = .ok (.if_icmp .eq 15, 3) := dt_Ref_breaks 28
theorem d_Ref_breaks_49 : decode (jm_cod M_Ref_breaks) 49 = .ok (.iload_n 2, 1) := dt_Ref_breaks 29
theorem d_Ref_breaks_50 : decode (jm_cod M_Ref_breaks) 50 = .ok (.bipush 8, 2) := dt_Ref_breaks 30
theorem d_Ref_breaks_52 : decode (jm_cod M_Ref_breaks) 52 = .ok (.if_icmp .eq 9, 3) := dt_Ref_breaks 31
theorem d_Ref_breaks_55 : decode (jm_cod M_Ref_breaks) 55 = .ok (.iload_n 2, 1) := dt_Ref_breaks 32
theorem d_Ref_breaks_56 : decode (jm_cod M_Ref_breaks) 56 = .ok (.bipush 16, 2) := dt_Ref_breaks 33
theorem d_Ref_breaks_58 : decode (jm_cod M_Ref_breaks) 58 = .ok (.if_icmp .ne 10, 3) := dt_Ref_breaks 34
theorem d_Ref_breaks_61 : decode (jm_cod M_Ref_breaks) 61 = .ok (.iload 4, 2) := dt_Ref_breaks 35
theorem d_Ref_breaks_63 : decode (jm_cod M_Ref_breaks) 63 = .ok (.iload_n 3, 1) := dt_Ref_breaks 36
theorem d_Ref_breaks_64 : decode (jm_cod M_Ref_breaks) 64 = .ok (.irem, 1) := dt_Ref_breaks 37
theorem d_Ref_breaks_65 : decode (jm_cod M_Ref_breaks) 65 = .ok (.ifCond .eq 5, 3) := dt_Ref_breaks 38
theorem d_Ref_breaks_68 : decode (jm_cod M_Ref_breaks) 68 = .ok (.iconst 4, 1) := dt_Ref_breaks 39
theorem d_Ref_breaks_69 : decode (jm_cod M_Ref_breaks) 69 = .ok (.ireturn, 1) := dt_Ref_breaks 40
theorem d_Ref_breaks_70 : decode (jm_cod M_Ref_breaks) 70 = .ok (.lload_n 0, 1) := dt_Ref_breaks 41
theorem d_Ref_breaks_71 : decode (jm_cod M_Ref_breaks) 71 = .ok (.invokestatic 324, 3) := dt_Ref_breaks 42
theorem d_Ref_breaks_74 : decode (jm_cod M_Ref_breaks) 74 = .ok (.iconst 1, 1) := dt_Ref_breaks 43
theorem d_Ref_breaks_75 : decode (jm_cod M_Ref_breaks) 75 = .ok (.if_icmp .ne 30, 3) := dt_Ref_breaks 44
theorem d_Ref_breaks_78 : decode (jm_cod M_Ref_breaks) 78 = .ok (.iload 4, 2) := dt_Ref_breaks 45
theorem d_Ref_breaks_80 : decode (jm_cod M_Ref_breaks) 80 = .ok (.iload 4, 2) := dt_Ref_breaks 46
theorem d_Ref_breaks_82 : decode (jm_cod M_Ref_breaks) 82 = .ok (.iload_n 3, 1) := dt_Ref_breaks 47
theorem d_Ref_breaks_83 : decode (jm_cod M_Ref_breaks) 83 = .ok (.irem, 1) := dt_Ref_breaks 48
theorem d_Ref_breaks_84 : decode (jm_cod M_Ref_breaks) 84 = .ok (.isub, 1) := dt_Ref_breaks 49
theorem d_Ref_breaks_85 : decode (jm_cod M_Ref_breaks) 85 = .ok (.iload 5, 2) := dt_Ref_breaks 50
theorem d_Ref_breaks_87 : decode (jm_cod M_Ref_breaks) 87 = .ok (.iadd, 1) := dt_Ref_breaks 51
theorem d_Ref_breaks_88 : decode (jm_cod M_Ref_breaks) 88 = .ok (.iconst 1, 1) := dt_Ref_breaks 52
theorem d_Ref_breaks_89 : decode (jm_cod M_Ref_breaks) 89 = .ok (.isub, 1) := dt_Ref_breaks 53
theorem d_Ref_breaks_90 : decode (jm_cod M_Ref_breaks) 90 = .ok (.sipush 4096, 3) := dt_Ref_breaks 54
theorem d_Ref_breaks_93 : decode (jm_cod M_Ref_breaks) 93 = .ok (.idiv, 1) := dt_Ref_breaks 55
theorem d_Ref_breaks_94 : decode (jm_cod M_Ref_breaks) 94 = .ok (.iload 4, 2) := dt_Ref_breaks 56
theorem d_Ref_breaks_96 : decode (jm_cod M_Ref_breaks) 96 = .ok (.sipush 4096, 3) := dt_Ref_breaks 57
theorem d_Ref_breaks_99 : decode (jm_cod M_Ref_breaks) 99 = .ok (.idiv, 1) := dt_Ref_breaks 58
theorem d_Ref_breaks_100 : decode (jm_cod M_Ref_breaks) 100 = .ok (.if_icmp .eq 5, 3) := dt_Ref_breaks 59
theorem d_Ref_breaks_103 : decode (jm_cod M_Ref_breaks) 103 = .ok (.iconst 5, 1) := dt_Ref_breaks 60
theorem d_Ref_breaks_104 : decode (jm_cod M_Ref_breaks) 104 = .ok (.ireturn, 1) := dt_Ref_breaks 61
theorem d_Ref_breaks_105 : decode (jm_cod M_Ref_breaks) 105 = .ok (.iload 5, 2) := dt_Ref_breaks 62
theorem d_Ref_breaks_107 : decode (jm_cod M_Ref_breaks) 107 = .ok (.iload 5, 2) := dt_Ref_breaks 63
theorem d_Ref_breaks_109 : decode (jm_cod M_Ref_breaks) 109 = .ok (.iconst 1, 1) := dt_Ref_breaks 64
theorem d_Ref_breaks_110 : decode (jm_cod M_Ref_breaks) 110 = .ok (.isub, 1) := dt_Ref_breaks 65
theorem d_Ref_breaks_111 : decode (jm_cod M_Ref_breaks) 111 = .ok (.iand, 1) := dt_Ref_breaks 66
theorem d_Ref_breaks_112 : decode (jm_cod M_Ref_breaks) 112 = .ok (.ifCond .ne 7, 3) := dt_Ref_breaks 67
theorem d_Ref_breaks_115 : decode (jm_cod M_Ref_breaks) 115 = .ok (.iconst 1, 1) := dt_Ref_breaks 68
theorem d_Ref_breaks_116 : decode (jm_cod M_Ref_breaks) 116 = .ok (.goto 4, 3) := dt_Ref_breaks 69
theorem d_Ref_breaks_119 : decode (jm_cod M_Ref_breaks) 119 = .ok (.iconst 0, 1) := dt_Ref_breaks 70
theorem d_Ref_breaks_120 : decode (jm_cod M_Ref_breaks) 120 = .ok (.istore 6, 2) := dt_Ref_breaks 71
theorem d_Ref_breaks_122 : decode (jm_cod M_Ref_breaks) 122 = .ok (.lload_n 0, 1) := dt_Ref_breaks 72
theorem d_Ref_breaks_123 : decode (jm_cod M_Ref_breaks) 123 = .ok (.invokestatic 329, 3) := dt_Ref_breaks 73
theorem d_Ref_breaks_126 : decode (jm_cod M_Ref_breaks) 126 = .ok (.ifCond .eq 36, 3) := dt_Ref_breaks 74
theorem d_Ref_breaks_129 : decode (jm_cod M_Ref_breaks) 129 = .ok (.lload_n 0, 1) := dt_Ref_breaks 75
theorem d_Ref_breaks_130 : decode (jm_cod M_Ref_breaks) 130 = .ok (.invokestatic 324, 3) := dt_Ref_breaks 76
theorem d_Ref_breaks_133 : decode (jm_cod M_Ref_breaks) 133 = .ok (.ifCond .eq 24, 3) := dt_Ref_breaks 77
theorem d_Ref_breaks_136 : decode (jm_cod M_Ref_breaks) 136 = .ok (.iload 6, 2) := dt_Ref_breaks 78
theorem d_Ref_breaks_138 : decode (jm_cod M_Ref_breaks) 138 = .ok (.ifCond .eq 19, 3) := dt_Ref_breaks 79
theorem d_Ref_breaks_141 : decode (jm_cod M_Ref_breaks) 141 = .ok (.iload 5, 2) := dt_Ref_breaks 80
theorem d_Ref_breaks_143 : decode (jm_cod M_Ref_breaks) 143 = .ok (.sipush 128, 3) := dt_Ref_breaks 81
theorem d_Ref_breaks_146 : decode (jm_cod M_Ref_breaks) 146 = .ok (.if_icmp .gt 11, 3) := dt_Ref_breaks 82
theorem d_Ref_breaks_149 : decode (jm_cod M_Ref_breaks) 149 = .ok (.iload 4, 2) := dt_Ref_breaks 83
theorem d_Ref_breaks_151 : decode (jm_cod M_Ref_breaks) 151 = .ok (.iload 5, 2) := dt_Ref_breaks 84
theorem d_Ref_breaks_153 : decode (jm_cod M_Ref_breaks) 153 = .ok (.irem, 1) := dt_Ref_breaks 85
theorem d_Ref_breaks_154 : decode (jm_cod M_Ref_breaks) 154 = .ok (.ifCond .eq 8, 3) := dt_Ref_breaks 86
theorem d_Ref_breaks_157 : decode (jm_cod M_Ref_breaks) 157 = .ok (.bipush 6, 2) := dt_Ref_breaks 87
theorem d_Ref_breaks_159 : decode (jm_cod M_Ref_breaks) 159 = .ok (.goto 4, 3) := dt_Ref_breaks 88
theorem d_Ref_breaks_162 : decode (jm_cod M_Ref_breaks) 162 = .ok (.iconst 0, 1) := dt_Ref_breaks 89
theorem d_Ref_breaks_163 : decode (jm_cod M_Ref_breaks) 163 = .ok (.ireturn, 1) := dt_Ref_breaks 90
def tab_Ref_lengthOf : List (Nat × Instr × Nat) := [(0, .lload_n 0, 1), (1, .bipush 22, 2), (3, .lshr, 1), (4, .ldc2_w 310, 3), (7, .land, 1), (8, .l2i, 1), (9, .iconst 1, 1), (10, .iadd, 1), (11, .ireturn, 1)]
theorem dt_Ref_lengthOf (i : Nat) : decode (jm_cod M_Ref_lengthOf) (tab_Ref_lengthOf.getD i (0, .lload_n 0, 1)).1 = .ok ((tab_Ref_lengthOf.getD i (0, .lload_n 0, 1)).2.1, (tab_Ref_lengthOf.getD i (0, .lload_n 0, 1)).2.2) := j_tab (by decide +kernel) i
theorem d_Ref_lengthOf_0 : decode (jm_cod M_Ref_lengthOf) 0 = .ok (.lload_n 0, 1) := dt_Ref_lengthOf 0
theorem d_Ref_lengthOf_1 : decode (jm_cod M_Ref_lengthOf) 1 = .ok (.bipush 22, 2) := dt_Ref_lengthOf 1
theorem d_Ref_lengthOf_3 : decode (jm_cod M_Ref_lengthOf) 3 = .ok (.lshr, 1) := dt_Ref_lengthOf 2
theorem d_Ref_lengthOf_4 : decode (jm_cod M_Ref_lengthOf) 4 = .ok (.ldc2_w 310, 3) := dt_Ref_lengthOf 3
theorem d_Ref_lengthOf_7 : decode (jm_cod M_Ref_lengthOf) 7 = .ok (.land, 1) := dt_Ref_lengthOf 4
theorem d_Ref_lengthOf_8 : decode (jm_cod M_Ref_lengthOf) 8 = .ok (.l2i, 1) := dt_Ref_lengthOf 5
theorem d_Ref_lengthOf_9 : decode (jm_cod M_Ref_lengthOf) 9 = .ok (.iconst 1, 1) := dt_Ref_lengthOf 6
theorem d_Ref_lengthOf_10 : decode (jm_cod M_Ref_lengthOf) 10 = .ok (.iadd, 1) := dt_Ref_lengthOf 7
theorem d_Ref_lengthOf_11 : decode (jm_cod M_Ref_lengthOf) 11 = .ok (.ireturn, 1) := dt_Ref_lengthOf 8
def tab_Ref_sizeOf : List (Nat × Instr × Nat) := [(0, .iconst 1, 1), (1, .lload_n 0, 1), (2, .bipush 26, 2), (4, .lshr, 1), (5, .ldc2_w 312, 3), (8, .land, 1), (9, .l2i, 1), (10, .ishl, 1), (11, .ireturn, 1)]
theorem dt_Ref_sizeOf (i : Nat) : decode (jm_cod M_Ref_sizeOf) (tab_Ref_sizeOf.getD i (0, .iconst 1, 1)).1 = .ok ((tab_Ref_sizeOf.getD i (0, .iconst 1, 1)).2.1, (tab_Ref_sizeOf.getD i (0, .iconst 1, 1)).2.2) := j_tab (by decide +kernel) i
theorem d_Ref_sizeOf_0 : decode (jm_cod M_Ref_sizeOf) 0 = .ok (.iconst 1, 1) := dt_Ref_sizeOf 0
theorem d_Ref_sizeOf_1 : decode (jm_cod M_Ref_sizeOf) 1 = .ok (.lload_n 0, 1) := dt_Ref_sizeOf 1
theorem d_Ref_sizeOf_2 : decode (jm_cod M_Ref_sizeOf) 2 = .ok (.bipush 26, 2) := dt_Ref_sizeOf 2
theorem d_Ref_sizeOf_4 : decode (jm_cod M_Ref_sizeOf) 4 = .ok (.lshr, 1) := dt_Ref_sizeOf 3
theorem d_Ref_sizeOf_5 : decode (jm_cod M_Ref_sizeOf) 5 = .ok (.ldc2_w 312, 3) := dt_Ref_sizeOf 4
theorem d_Ref_sizeOf_8 : decode (jm_cod M_Ref_sizeOf) 8 = .ok (.land, 1) := dt_Ref_sizeOf 5
theorem d_Ref_sizeOf_9 : decode (jm_cod M_Ref_sizeOf) 9 = .ok (.l2i, 1) := dt_Ref_sizeOf 6
theorem d_Ref_sizeOf_10 : decode (jm_cod M_Ref_sizeOf) 10 = .ok (.ishl, 1) := dt_Ref_sizeOf 7
theorem d_Ref_sizeOf_11 : decode (jm_cod M_Ref_sizeOf) 11 = .ok (.ireturn, 1) := dt_Ref_sizeOf 8
def tab_Ref_addressOf : List (Nat × Instr × Nat) := [(0, .lload_n 0, 1), (1, .bipush 6, 2), (3, .lshr, 1), (4, .ldc2_w 308, 3), (7, .land, 1), (8, .l2i, 1), (9, .ireturn, 1)]
theorem dt_Ref_addressOf (i : Nat) : decode (jm_cod M_Ref_addressOf) (tab_Ref_addressOf.getD i (0, .lload_n 0, 1)).1 = .ok ((tab_Ref_addressOf.getD i (0, .lload_n 0, 1)).2.1, (tab_Ref_addressOf.getD i (0, .lload_n 0, 1)).2.2) := j_tab (by decide +kernel) i
theorem d_Ref_addressOf_0 : decode (jm_cod M_Ref_addressOf) 0 = .ok (.lload_n 0, 1) := dt_Ref_addressOf 0
theorem d_Ref_addressOf_1 : decode (jm_cod M_Ref_addressOf) 1 = .ok (.bipush 6, 2) := dt_Ref_addressOf 1
theorem d_Ref_addressOf_3 : decode (jm_cod M_Ref_addressOf) 3 = .ok (.lshr, 1) := dt_Ref_addressOf 2
theorem d_Ref_addressOf_4 : decode (jm_cod M_Ref_addressOf) 4 = .ok (.ldc2_w 308, 3) := dt_Ref_addressOf 3
theorem d_Ref_addressOf_7 : decode (jm_cod M_Ref_addressOf) 7 = .ok (.land, 1) := dt_Ref_addressOf 4
theorem d_Ref_addressOf_8 : decode (jm_cod M_Ref_addressOf) 8 = .ok (.l2i, 1) := dt_Ref_addressOf 5
theorem d_Ref_addressOf_9 : decode (jm_cod M_Ref_addressOf) 9 = .ok (.ireturn, 1) := dt_Ref_addressOf 6
def tab_Ref_kindOf : List (Nat × Instr × Nat) := [(0, .lload_n 0, 1), (1, .bipush 28, 2), (3, .lshr, 1), (4, .ldc2_w 312, 3), (7, .land, 1), (8, .l2i, 1), (9, .ireturn, 1)]
theorem dt_Ref_kindOf (i : Nat) : decode (jm_cod M_Ref_kindOf) (tab_Ref_kindOf.getD i (0, .lload_n 0, 1)).1 = .ok ((tab_Ref_kindOf.getD i (0, .lload_n 0, 1)).2.1, (tab_Ref_kindOf.getD i (0, .lload_n 0, 1)).2.2) := j_tab (by decide +kernel) i
theorem d_Ref_kindOf_0 : decode (jm_cod M_Ref_kindOf) 0 = .ok (.lload_n 0, 1) := dt_Ref_kindOf 0
theorem d_Ref_kindOf_1 : decode (jm_cod M_Ref_kindOf) 1 = .ok (.bipush 28, 2) := dt_Ref_kindOf 1
theorem d_Ref_kindOf_3 : decode (jm_cod M_Ref_kindOf) 3 = .ok (.lshr, 1) := dt_Ref_kindOf 2
theorem d_Ref_kindOf_4 : decode (jm_cod M_Ref_kindOf) 4 = .ok (.ldc2_w 312, 3) := dt_Ref_kindOf 3
theorem d_Ref_kindOf_7 : decode (jm_cod M_Ref_kindOf) 7 = .ok (.land, 1) := dt_Ref_kindOf 4
theorem d_Ref_kindOf_8 : decode (jm_cod M_Ref_kindOf) 8 = .ok (.l2i, 1) := dt_Ref_kindOf 5
theorem d_Ref_kindOf_9 : decode (jm_cod M_Ref_kindOf) 9 = .ok (.ireturn, 1) := dt_Ref_kindOf 6
def tab_Ref_isAlone : List (Nat × Instr × Nat) := [(0, .lload_n 0, 1), (1, .bipush 30, 2), (3, .lshr, 1), (4, .lconst 1, 1), (5, .land, 1), (6, .lconst 1, 1), (7, .lcmp, 1), (8, .ifCond .ne 7, 3), (11, .iconst 1, 1), (12, .goto 4, 3), (15, .iconst 0, 1), (16, .ireturn, 1)]
theorem dt_Ref_isAlone (i : Nat) : decode (jm_cod M_Ref_isAlone) (tab_Ref_isAlone.getD i (0, .lload_n 0, 1)).1 = .ok ((tab_Ref_isAlone.getD i (0, .lload_n 0, 1)).2.1, (tab_Ref_isAlone.getD i (0, .lload_n 0, 1)).2.2) := j_tab (by decide +kernel) i
theorem d_Ref_isAlone_0 : decode (jm_cod M_Ref_isAlone) 0 = .ok (.lload_n 0, 1) := dt_Ref_isAlone 0
theorem d_Ref_isAlone_1 : decode (jm_cod M_Ref_isAlone) 1 = .ok (.bipush 30, 2) := dt_Ref_isAlone 1
theorem d_Ref_isAlone_3 : decode (jm_cod M_Ref_isAlone) 3 = .ok (.lshr, 1) := dt_Ref_isAlone 2
theorem d_Ref_isAlone_4 : decode (jm_cod M_Ref_isAlone) 4 = .ok (.lconst 1, 1) := dt_Ref_isAlone 3
theorem d_Ref_isAlone_5 : decode (jm_cod M_Ref_isAlone) 5 = .ok (.land, 1) := dt_Ref_isAlone 4
theorem d_Ref_isAlone_6 : decode (jm_cod M_Ref_isAlone) 6 = .ok (.lconst 1, 1) := dt_Ref_isAlone 5
theorem d_Ref_isAlone_7 : decode (jm_cod M_Ref_isAlone) 7 = .ok (.lcmp, 1) := dt_Ref_isAlone 6
theorem d_Ref_isAlone_8 : decode (jm_cod M_Ref_isAlone) 8 = .ok (.ifCond .ne 7, 3) := dt_Ref_isAlone 7
theorem d_Ref_isAlone_11 : decode (jm_cod M_Ref_isAlone) 11 = .ok (.iconst 1, 1) := dt_Ref_isAlone 8
theorem d_Ref_isAlone_12 : decode (jm_cod M_Ref_isAlone) 12 = .ok (.goto 4, 3) := dt_Ref_isAlone 9
theorem d_Ref_isAlone_15 : decode (jm_cod M_Ref_isAlone) 15 = .ok (.iconst 0, 1) := dt_Ref_isAlone 10
theorem d_Ref_isAlone_16 : decode (jm_cod M_Ref_isAlone) 16 = .ok (.ireturn, 1) := dt_Ref_isAlone 11
def tab_Ref_tick : List (Nat × Instr × Nat) := [(0, .aload_n 0, 1), (1, .iload_n 1, 1), (2, .i2l, 1), (3, .lconst 1, 1), (4, .ldc2_w 616, 3), (7, .invokestatic 599, 3), (10, .ifCond .eq 7, 3), (13, .iconst 0, 1), (14, .goto 4, 3), (17, .iconst 1, 1), (18, .putfield 303, 3), (21, .iconst 0, 1), (22, .istore_n 2, 1), (23, .iconst 0, 1), (24, .istore_n 3, 1), (25, .iload_n 3, 1), (26, .iload_n 1, 1), (27, .if_icmp .ge 23, 3), (30, .aload_n 0, 1), (31, .getfield 303, 3), (34, .ifCond .ne 16, 3), (37, .iload_n 2, 1), (38, .aload_n 0, 1), (39, .invokevirtual 618, 3), (42, .iadd, 1), (43, .istore_n 2, 1), (44, .iinc 3 1, 3), (47, .goto (-22), 3), (50, .iload_n 2, 1), (51, .ireturn, 1)]
theorem dt_Ref_tick (i : Nat) : decode (jm_cod M_Ref_tick) (tab_Ref_tick.getD i (0, .aload_n 0, 1)).1 = .ok ((tab_Ref_tick.getD i (0, .aload_n 0, 1)).2.1, (tab_Ref_tick.getD i (0, .aload_n 0, 1)).2.2) := j_tab (by decide +kernel) i
theorem d_Ref_tick_0 : decode (jm_cod M_Ref_tick) 0 = .ok (.aload_n 0, 1) := dt_Ref_tick 0
theorem d_Ref_tick_1 : decode (jm_cod M_Ref_tick) 1 = .ok (.iload_n 1, 1) := dt_Ref_tick 1
theorem d_Ref_tick_2 : decode (jm_cod M_Ref_tick) 2 = .ok (.i2l, 1) := dt_Ref_tick 2
theorem d_Ref_tick_3 : decode (jm_cod M_Ref_tick) 3 = .ok (.lconst 1, 1) := dt_Ref_tick 3
theorem d_Ref_tick_4 : decode (jm_cod M_Ref_tick) 4 = .ok (.ldc2_w 616, 3) := dt_Ref_tick 4
theorem d_Ref_tick_7 : decode (jm_cod M_Ref_tick) 7 = .ok (.invokestatic 599, 3) := dt_Ref_tick 5
theorem d_Ref_tick_10 : decode (jm_cod M_Ref_tick) 10 = .ok (.ifCond .eq 7, 3) := dt_Ref_tick 6
theorem d_Ref_tick_13 : decode (jm_cod M_Ref_tick) 13 = .ok (.iconst 0, 1) := dt_Ref_tick 7
theorem d_Ref_tick_14 : decode (jm_cod M_Ref_tick) 14 = .ok (.goto 4, 3) := dt_Ref_tick 8
theorem d_Ref_tick_17 : decode (jm_cod M_Ref_tick) 17 = .ok (.iconst 1, 1) := dt_Ref_tick 9
theorem d_Ref_tick_18 : decode (jm_cod M_Ref_tick) 18 = .ok (.putfield 303, 3) := dt_Ref_tick 10
theorem d_Ref_tick_21 : decode (jm_cod M_Ref_tick) 21 = .ok (.iconst 0, 1) := dt_Ref_tick 11
theorem d_Ref_tick_22 : decode (jm_cod M_Ref_tick) 22 = .ok (.istore_n 2, 1) := dt_Ref_tick 12
theorem d_Ref_tick_23 : decode (jm_cod M_Ref_tick) 23 = .ok (.iconst 0, 1) := dt_Ref_tick 13
theorem d_Ref_tick_24 : decode (jm_cod M_Ref_tick) 24 = .ok (.istore_n 3, 1) := dt_Ref_tick 14
theorem d_Ref_tick_25 : decode (jm_cod M_Ref_tick) 25 = .ok (.iload_n 3, 1) := dt_Ref_tick 15
theorem d_Ref_tick_26 : decode (jm_cod M_Ref_tick) 26 = .ok (.iload_n 1, 1) := dt_Ref_tick 16
theorem d_Ref_tick_27 : decode (jm_cod M_Ref_tick) 27 = .ok (.if_icmp .ge 23, 3) := dt_Ref_tick 17
theorem d_Ref_tick_30 : decode (jm_cod M_Ref_tick) 30 = .ok (.aload_n 0, 1) := dt_Ref_tick 18
theorem d_Ref_tick_31 : decode (jm_cod M_Ref_tick) 31 = .ok (.getfield 303, 3) := dt_Ref_tick 19
theorem d_Ref_tick_34 : decode (jm_cod M_Ref_tick) 34 = .ok (.ifCond .ne 16, 3) := dt_Ref_tick 20
theorem d_Ref_tick_37 : decode (jm_cod M_Ref_tick) 37 = .ok (.iload_n 2, 1) := dt_Ref_tick 21
theorem d_Ref_tick_38 : decode (jm_cod M_Ref_tick) 38 = .ok (.aload_n 0, 1) := dt_Ref_tick 22
theorem d_Ref_tick_39 : decode (jm_cod M_Ref_tick) 39 = .ok (.invokevirtual 618, 3) := dt_Ref_tick 23
theorem d_Ref_tick_42 : decode (jm_cod M_Ref_tick) 42 = .ok (.iadd, 1) := dt_Ref_tick 24
theorem d_Ref_tick_43 : decode (jm_cod M_Ref_tick) 43 = .ok (.istore_n 2, 1) := dt_Ref_tick 25
theorem d_Ref_tick_44 : decode (jm_cod M_Ref_tick) 44 = .ok (.iinc 3 1, 3) := dt_Ref_tick 26
theorem d_Ref_tick_47 : decode (jm_cod M_Ref_tick) 47 = .ok (.goto (-22), 3) := dt_Ref_tick 27
theorem d_Ref_tick_50 : decode (jm_cod M_Ref_tick) 50 = .ok (.iload_n 2, 1) := dt_Ref_tick 28
theorem d_Ref_tick_51 : decode (jm_cod M_Ref_tick) 51 = .ok (.ireturn, 1) := dt_Ref_tick 29
def tab_Ref_step : List (Nat × Instr × Nat) := [(0, .iconst 0, 1), (1, .istore_n 1, 1), (2, .iload_n 1, 1), (3, .aload_n 0, 1), (4, .getfield 290, 3), (7, .if_icmp .ge 14, 3), (10, .aload_n 0, 1), (11, .iload_n 1, 1), (12, .invokevirtual 578, 3), (15, .iinc 1 1, 3), (18, .goto (-16), 3), (21, .iconst 0, 1), (22, .istore_n 1, 1), (23, .iload_n 1, 1), (24, .aload_n 0, 1), (25, .getfield 294, 3), (28, .if_icmp .ge 14, 3), (31, .aload_n 0, 1), (32, .iload_n 1, 1), (33, .invokevirtual 581, 3), (36, .iinc 1 1, 3), (39, .goto (-16), 3), (42, .iconst 0, 1), (43, .istore_n 1, 1), (44, .iload_n 1, 1), (45, .bipush 8, 2), (47, .if_icmp .ge 26, 3), (50, .aload_n 0, 1), (51, .iload_n 1, 1), (52, .invokevirtual 584, 3), (55, .ifCond .eq 12, 3), (58, .aload_n 0, 1), (59, .iload_n 1, 1), (60, .iconst 5, 1), (61, .iload_n 1, 1), (62, .imul, 1), (63, .iconst 0, 1), (64, .invokevirtual 587, 3), (67, .iinc 1 1, 3), (70, .goto (-26), 3), (73, .iconst 0, 1), (74, .istore_n 1, 1), (75, .iconst 0, 1), (76, .istore_n 2, 1), (77, .iload_n 2, 1), (78, .bipush 40, 2), (80, .if_icmp .ge 130, 3), (83, .aload_n 0, 1), (84, .iload_n 2, 1), (85, .iconst 5, 1), (86, .idiv, 1), (87, .invokevirtual 584, 3), (90, .ifCond .eq 25, 3), (93, .aload_n 0, 1), (94, .getfield 88, 3), (97, .iload_n 2, 1), (98, .baload, 1), (99, .ifCond .eq 16, 3), (102, .aload_n 0, 1), (103, .getfield 91, 3), (106, .iload_n 2, 1), (107, .baload, 1), (108, .ifCond .eq 7, 3), (111, .iconst 1, 1), (112, .goto 4, 3), (115, .iconst 0, 1), (116, .istore_n 3, 1), (117, .aload_n 0, 1), (118, .getfield 100, 3), (121, .iload_n 2, 1), (122, .aload_n 0, 1), (123, .iload_n 2, 1), (124, .iconst 5, 1), (125, .idiv, 1), (126, .invokevirtual 584, 3), (129, .ifCond .eq 25, 3), (132, .aload_n 0, 1), (133, .getfield 88, 3), (136, .iload_n 2, 1), (137, .baload, 1), (138, .ifCond .eq 16, 3), (141, .aload_n 0, 1), (142, .getfield 91, 3), (145, .iload_n 2, 1), (146, .baload, 1), (147, .ifCond .ne 7, 3), (150, .iconst 1, 1), (151, .goto 4, 3), (154, .iconst 0, 1), (155, .bastore, 1), (156, .iload_n 3, 1), (157, .ifCond .eq 47, 3), (160, .iinc 1 1, 3), (163, .aload_n 0, 1), (164, .getfield 103, 3), (167, .iload_n 2, 1), (168, .dup2, 1), (169, .iaload, 1), (170, .iconst 1, 1), (171, .iadd, 1), (172, .iastore, 1), (173, .iload_n 2, 1), (174, .bipush 20, 2), (176, .if_icmp .ge 16, 3), (179, .aload_n 0, 1), (180, .iload_n 2, 1), (181, .iconst 5, 1), (182, .idiv, 1), (183, .iload_n 2, 1), (184, .iconst 5, 1), (185, .irem, 1), (186, .invokevirtual 590, 3), (189, .goto 15, 3), (192, .aload_n 0, 1), (193, .iload_n 2, 1), (194, .iconst 5, 1), (195, .idiv, 1), (196, .iconst 4, 1), (197, .isub, 1), (198, .iload_n 2, 1), (199, .iconst 5, 1), (200, .irem, 1), (201, .invokevirtual 593, 3), (204, .iinc 2 1, 3), (207, .goto (-130), 3), (210, .aload_n 0, 1), (211, .invokevirtual 596, 3), (214, .aload_n 0, 1), (215, .dup, 1), (216, .getfield 348, 3), (219, .iconst 1, 1), (220, .iadd, 1), (221, .putfield 348, 3), (224, .iload_n 1, 1), (225, .ireturn, 1)]
theorem dt_Ref_step (i : Nat) : decode (jm_cod M_Ref_step) (tab_Ref_step.getD i (0, .iconst 0, 1)).1 = .ok ((tab_Ref_step.getD i (0, .iconst 0, 1)).2.1, (tab_Ref_step.getD i (0, .iconst 0, 1)).2.2) := j_tab (by decide +kernel) i
theorem d_Ref_step_0 : decode (jm_cod M_Ref_step) 0 = .ok (.iconst 0, 1) := dt_Ref_step 0
theorem d_Ref_step_1 : decode (jm_cod M_Ref_step) 1 = .ok (.istore_n 1, 1) := dt_Ref_step 1
theorem d_Ref_step_2 : decode (jm_cod M_Ref_step) 2 = .ok (.iload_n 1, 1) := dt_Ref_step 2
theorem d_Ref_step_3 : decode (jm_cod M_Ref_step) 3 = .ok (.aload_n 0, 1) := dt_Ref_step 3
theorem d_Ref_step_4 : decode (jm_cod M_Ref_step) 4 = .ok (.getfield 290, 3) := dt_Ref_step 4
theorem d_Ref_step_7 : decode (jm_cod M_Ref_step) 7 = .ok (.if_icmp .ge 14, 3) := dt_Ref_step 5
theorem d_Ref_step_10 : decode (jm_cod M_Ref_step) 10 = .ok (.aload_n 0, 1) := dt_Ref_step 6
theorem d_Ref_step_11 : decode (jm_cod M_Ref_step) 11 = .ok (.iload_n 1, 1) := dt_Ref_step 7
theorem d_Ref_step_12 : decode (jm_cod M_Ref_step) 12 = .ok (.invokevirtual 578, 3) := dt_Ref_step 8
theorem d_Ref_step_15 : decode (jm_cod M_Ref_step) 15 = .ok (.iinc 1 1, 3) := dt_Ref_step 9
theorem d_Ref_step_18 : decode (jm_cod M_Ref_step) 18 = .ok (.goto (-16), 3) := dt_Ref_step 10
theorem d_Ref_step_21 : decode (jm_cod M_Ref_step) 21 = .ok (.iconst 0, 1) := dt_Ref_step 11
theorem d_Ref_step_22 : decode (jm_cod M_Ref_step) 22 = .ok (.istore_n 1, 1) := dt_Ref_step 12
theorem d_Ref_step_23 : decode (jm_cod M_Ref_step) 23 = .ok (.iload_n 1, 1) := dt_Ref_step 13
theorem d_Ref_step_24 : decode (jm_cod M_Ref_step) 24 = .ok (.aload_n 0, 1) := dt_Ref_step 14
theorem d_Ref_step_25 : decode (jm_cod M_Ref_step) 25 = .ok (.getfield 294, 3) := dt_Ref_step 15
theorem d_Ref_step_28 : decode (jm_cod M_Ref_step) 28 = .ok (.if_icmp .ge 14, 3) := dt_Ref_step 16
theorem d_Ref_step_31 : decode (jm_cod M_Ref_step) 31 = .ok (.aload_n 0, 1) := dt_Ref_step 17
theorem d_Ref_step_32 : decode (jm_cod M_Ref_step) 32 = .ok (.iload_n 1, 1) := dt_Ref_step 18
theorem d_Ref_step_33 : decode (jm_cod M_Ref_step) 33 = .ok (.invokevirtual 581, 3) := dt_Ref_step 19
theorem d_Ref_step_36 : decode (jm_cod M_Ref_step) 36 = .ok (.iinc 1 1, 3) := dt_Ref_step 20
theorem d_Ref_step_39 : decode (jm_cod M_Ref_step) 39 = .ok (.goto (-16), 3) := dt_Ref_step 21
theorem d_Ref_step_42 : decode (jm_cod M_Ref_step) 42 = .ok (.iconst 0, 1) := dt_Ref_step 22
theorem d_Ref_step_43 : decode (jm_cod M_Ref_step) 43 = .ok (.istore_n 1, 1) := dt_Ref_step 23
theorem d_Ref_step_44 : decode (jm_cod M_Ref_step) 44 = .ok (.iload_n 1, 1) := dt_Ref_step 24
theorem d_Ref_step_45 : decode (jm_cod M_Ref_step) 45 = .ok (.bipush 8, 2) := dt_Ref_step 25
theorem d_Ref_step_47 : decode (jm_cod M_Ref_step) 47 = .ok (.if_icmp .ge 26, 3) := dt_Ref_step 26
theorem d_Ref_step_50 : decode (jm_cod M_Ref_step) 50 = .ok (.aload_n 0, 1) := dt_Ref_step 27
theorem d_Ref_step_51 : decode (jm_cod M_Ref_step) 51 = .ok (.iload_n 1, 1) := dt_Ref_step 28
theorem d_Ref_step_52 : decode (jm_cod M_Ref_step) 52 = .ok (.invokevirtual 584, 3) := dt_Ref_step 29
theorem d_Ref_step_55 : decode (jm_cod M_Ref_step) 55 = .ok (.ifCond .eq 12, 3) := dt_Ref_step 30
theorem d_Ref_step_58 : decode (jm_cod M_Ref_step) 58 = .ok (.aload_n 0, 1) := dt_Ref_step 31
theorem d_Ref_step_59 : decode (jm_cod M_Ref_step) 59 = .ok (.iload_n 1, 1) := dt_Ref_step 32
theorem d_Ref_step_60 : decode (jm_cod M_Ref_step) 60 = .ok (.iconst 5, 1) := dt_Ref_step 33
theorem d_Ref_step_61 : decode (jm_cod M_Ref_step) 61 = .ok (.iload_n 1, 1) := dt_Ref_step 34
theorem d_Ref_step_62 : decode (jm_cod M_Ref_step) 62 = .ok (.imul, 1) := dt_Ref_step 35
theorem d_Ref_step_63 : decode (jm_cod M_Ref_step) 63 = .ok (.iconst 0, 1) := dt_Ref_step 36
theorem d_Ref_step_64 : decode (jm_cod M_Ref_step) 64 = .ok (.invokevirtual 587, 3) := dt_Ref_step 37
theorem d_Ref_step_67 : decode (jm_cod M_Ref_step) 67 = .ok (.iinc 1 1, 3) := dt_Ref_step 38
theorem d_Ref_step_70 : decode (jm_cod M_Ref_step) 70 = .ok (.goto (-26), 3) := dt_Ref_step 39
theorem d_Ref_step_73 : decode (jm_cod M_Ref_step) 73 = .ok (.iconst 0, 1) := dt_Ref_step 40
theorem d_Ref_step_74 : decode (jm_cod M_Ref_step) 74 = .ok (.istore_n 1, 1) := dt_Ref_step 41
theorem d_Ref_step_75 : decode (jm_cod M_Ref_step) 75 = .ok (.iconst 0, 1) := dt_Ref_step 42
theorem d_Ref_step_76 : decode (jm_cod M_Ref_step) 76 = .ok (.istore_n 2, 1) := dt_Ref_step 43
theorem d_Ref_step_77 : decode (jm_cod M_Ref_step) 77 = .ok (.iload_n 2, 1) := dt_Ref_step 44
theorem d_Ref_step_78 : decode (jm_cod M_Ref_step) 78 = .ok (.bipush 40, 2) := dt_Ref_step 45
theorem d_Ref_step_80 : decode (jm_cod M_Ref_step) 80 = .ok (.if_icmp .ge 130, 3) := dt_Ref_step 46
theorem d_Ref_step_83 : decode (jm_cod M_Ref_step) 83 = .ok (.aload_n 0, 1) := dt_Ref_step 47
theorem d_Ref_step_84 : decode (jm_cod M_Ref_step) 84 = .ok (.iload_n 2, 1) := dt_Ref_step 48
theorem d_Ref_step_85 : decode (jm_cod M_Ref_step) 85 = .ok (.iconst 5, 1) := dt_Ref_step 49
theorem d_Ref_step_86 : decode (jm_cod M_Ref_step) 86 = .ok (.idiv, 1) := dt_Ref_step 50
theorem d_Ref_step_87 : decode (jm_cod M_Ref_step) 87 = .ok (.invokevirtual 584, 3) := dt_Ref_step 51
theorem d_Ref_step_90 : decode (jm_cod M_Ref_step) 90 = .ok (.ifCond .eq 25, 3) := dt_Ref_step 52
theorem d_Ref_step_93 : decode (jm_cod M_Ref_step) 93 = .ok (.aload_n 0, 1) := dt_Ref_step 53
theorem d_Ref_step_94 : decode (jm_cod M_Ref_step) 94 = .ok (.getfield 88, 3) := dt_Ref_step 54
theorem d_Ref_step_97 : decode (jm_cod M_Ref_step) 97 = .ok (.iload_n 2, 1) := dt_Ref_step 55
theorem d_Ref_step_98 : decode (jm_cod M_Ref_step) 98 = .ok (.baload, 1) := dt_Ref_step 56
theorem d_Ref_step_99 : decode (jm_cod M_Ref_step) 99 = .ok (.ifCond .eq 16, 3) := dt_Ref_step 57
theorem d_Ref_step_102 : decode (jm_cod M_Ref_step) 102 = .ok (.aload_n 0, 1) := dt_Ref_step 58
theorem d_Ref_step_103 : decode (jm_cod M_Ref_step) 103 = .ok (.getfield 91, 3) := dt_Ref_step 59
theorem d_Ref_step_106 : decode (jm_cod M_Ref_step) 106 = .ok (.iload_n 2, 1) := dt_Ref_step 60
theorem d_Ref_step_107 : decode (jm_cod M_Ref_step) 107 = .ok (.baload, 1) := dt_Ref_step 61
theorem d_Ref_step_108 : decode (jm_cod M_Ref_step) 108 = .ok (.ifCond .eq 7, 3) := dt_Ref_step 62
theorem d_Ref_step_111 : decode (jm_cod M_Ref_step) 111 = .ok (.iconst 1, 1) := dt_Ref_step 63
theorem d_Ref_step_112 : decode (jm_cod M_Ref_step) 112 = .ok (.goto 4, 3) := dt_Ref_step 64
theorem d_Ref_step_115 : decode (jm_cod M_Ref_step) 115 = .ok (.iconst 0, 1) := dt_Ref_step 65
theorem d_Ref_step_116 : decode (jm_cod M_Ref_step) 116 = .ok (.istore_n 3, 1) := dt_Ref_step 66
theorem d_Ref_step_117 : decode (jm_cod M_Ref_step) 117 = .ok (.aload_n 0, 1) := dt_Ref_step 67
theorem d_Ref_step_118 : decode (jm_cod M_Ref_step) 118 = .ok (.getfield 100, 3) := dt_Ref_step 68
theorem d_Ref_step_121 : decode (jm_cod M_Ref_step) 121 = .ok (.iload_n 2, 1) := dt_Ref_step 69
theorem d_Ref_step_122 : decode (jm_cod M_Ref_step) 122 = .ok (.aload_n 0, 1) := dt_Ref_step 70
theorem d_Ref_step_123 : decode (jm_cod M_Ref_step) 123 = .ok (.iload_n 2, 1) := dt_Ref_step 71
theorem d_Ref_step_124 : decode (jm_cod M_Ref_step) 124 = .ok (.iconst 5, 1) := dt_Ref_step 72
theorem d_Ref_step_125 : decode (jm_cod M_Ref_step) 125 = .ok (.idiv, 1) := dt_Ref_step 73
theorem d_Ref_step_126 : decode (jm_cod M_Ref_step) 126 = .ok (.invokevirtual 584, 3) := dt_Ref_step 74
theorem d_Ref_step_129 : decode (jm_cod M_Ref_step) 129 = .ok (.ifCond .eq 25, 3) := dt_Ref_step 75
theorem d_Ref_step_132 : decode (jm_cod M_Ref_step) 132 = .ok (.aload_n 0, 1) := dt_Ref_step 76
theorem d_Ref_step_133 : decode (jm_cod M_Ref_step) 133 = .ok (.getfield 88, 3) := dt_Ref_step 77
theorem d_Ref_step_136 : decode (jm_cod M_Ref_step) 136 = .ok (.iload_n 2, 1) := dt_Ref_step 78
theorem d_Ref_step_137 : decode (jm_cod M_Ref_step) 137 = .ok (.baload, 1) := dt_Ref_step 79
theorem d_Ref_step_138 : decode (jm_cod M_Ref_step) 138 = .ok (.ifCond .eq 16, 3) := dt_Ref_step 80
theorem d_Ref_step_141 : decode (jm_cod M_Ref_step) 141 = .ok (.aload_n 0, 1) := dt_Ref_step 81
theorem d_Ref_step_142 : decode (jm_cod M_Ref_step) 142 = .ok (.getfield 91, 3) := dt_Ref_step 82
theorem d_Ref_step_145 : decode (jm_cod M_Ref_step) 145 = .ok (.iload_n 2, 1) := dt_Ref_step 83
theorem d_Ref_step_146 : decode (jm_cod M_Ref_step) 146 = .ok (.baload, 1) := dt_Ref_step 84
theorem d_Ref_step_147 : decode (jm_cod M_Ref_step) 147 = .ok (.ifCond .ne 7, 3) := dt_Ref_step 85
theorem d_Ref_step_150 : decode (jm_cod M_Ref_step) 150 = .ok (.iconst 1, 1) := dt_Ref_step 86
theorem d_Ref_step_151 : decode (jm_cod M_Ref_step) 151 = .ok (.goto 4, 3) := dt_Ref_step 87
theorem d_Ref_step_154 : decode (jm_cod M_Ref_step) 154 = .ok (.iconst 0, 1) := dt_Ref_step 88
theorem d_Ref_step_155 : decode (jm_cod M_Ref_step) 155 = .ok (.bastore, 1) := dt_Ref_step 89
theorem d_Ref_step_156 : decode (jm_cod M_Ref_step) 156 = .ok (.iload_n 3, 1) := dt_Ref_step 90
theorem d_Ref_step_157 : decode (jm_cod M_Ref_step) 157 = .ok (.ifCond .eq 47, 3) := dt_Ref_step 91
theorem d_Ref_step_160 : decode (jm_cod M_Ref_step) 160 = .ok (.iinc 1 1, 3) := dt_Ref_step 92
theorem d_Ref_step_163 : decode (jm_cod M_Ref_step) 163 = .ok (.aload_n 0, 1) := dt_Ref_step 93
theorem d_Ref_step_164 : decode (jm_cod M_Ref_step) 164 = .ok (.getfield 103, 3) := dt_Ref_step 94
theorem d_Ref_step_167 : decode (jm_cod M_Ref_step) 167 = .ok (.iload_n 2, 1) := dt_Ref_step 95
theorem d_Ref_step_168 : decode (jm_cod M_Ref_step) 168 = .ok (.dup2, 1) := dt_Ref_step 96
theorem d_Ref_step_169 : decode (jm_cod M_Ref_step) 169 = .ok (.iaload, 1) := dt_Ref_step 97
theorem d_Ref_step_170 : decode (jm_cod M_Ref_step) 170 = .ok (.iconst 1, 1) := dt_Ref_step 98
theorem d_Ref_step_171 : decode (jm_cod M_Ref_step) 171 = .ok (.iadd, 1) := dt_Ref_step 99
theorem d_Ref_step_172 : decode (jm_cod M_Ref_step) 172 = .ok (.iastore, 1) := dt_Ref_step 100
theorem d_Ref_step_173 : decode (jm_cod M_Ref_step) 173 = .ok (.iload_n 2, 1) := dt_Ref_step 101
theorem d_Ref_step_174 : decode (jm_cod M_Ref_step) 174 = .ok (.bipush 20, 2) := dt_Ref_step 102
theorem d_Ref_step_176 : decode (jm_cod M_Ref_step) 176 = .ok (.if_icmp .ge 16, 3) := dt_Ref_step 103
theorem d_Ref_step_179 : decode (jm_cod M_Ref_step) 179 = .ok (.aload_n 0, 1) := dt_Ref_step 104
theorem d_Ref_step_180 : decode (jm_cod M_Ref_step) 180 = .ok (.iload_n 2, 1) := dt_Ref_step 105
theorem d_Ref_step_181 : decode (jm_cod M_Ref_step) 181 = .ok (.iconst 5, 1) := dt_Ref_step 106
theorem d_Ref_step_182 : decode (jm_cod M_Ref_step) 182 = .ok (.idiv, 1) := dt_Ref_step 107
theorem d_Ref_step_183 : decode (jm_cod M_Ref_step) 183 = .ok (.iload_n 2, 1) := dt_Ref_step 108
theorem d_Ref_step_184 : decode (jm_cod M_Ref_step) 184 = .ok (.iconst 5, 1) := dt_Ref_step 109
theorem d_Ref_step_185 : decode (jm_cod M_Ref_step) 185 = .ok (.irem, 1) := dt_Ref_step 110
theorem d_Ref_step_186 : decode (jm_cod M_Ref_step) 186 = .ok (.invokevirtual 590, 3) := dt_Ref_step 111
theorem d_Ref_step_189 : decode (jm_cod M_Ref_step) 189 = .ok (.goto 15, 3) := dt_Ref_step 112
theorem d_Ref_step_192 : decode (jm_cod M_Ref_step) 192 = .ok (.aload_n 0, 1) := dt_Ref_step 113
theorem d_Ref_step_193 : decode (jm_cod M_Ref_step) 193 = .ok (.iload_n 2, 1) := dt_Ref_step 114
theorem d_Ref_step_194 : decode (jm_cod M_Ref_step) 194 = .ok (.iconst 5, 1) := dt_Ref_step 115
theorem d_Ref_step_195 : decode (jm_cod M_Ref_step) 195 = .ok (.idiv, 1) := dt_Ref_step 116
theorem d_Ref_step_196 : decode (jm_cod M_Ref_step) 196 = .ok (.iconst 4, 1) := dt_Ref_step 117
theorem d_Ref_step_197 : decode (jm_cod M_Ref_step) 197 = .ok (.isub, 1) := dt_Ref_step 118
theorem d_Ref_step_198 : decode (jm_cod M_Ref_step) 198 = .ok (.iload_n 2, 1) := dt_Ref_step 119
theorem d_Ref_step_199 : decode (jm_cod M_Ref_step) 199 = .ok (.iconst 5, 1) := dt_Ref_step 120
theorem d_Ref_step_200 : decode (jm_cod M_Ref_step) 200 = .ok (.irem, 1) := dt_Ref_step 121
theorem d_Ref_step_201 : decode (jm_cod M_Ref_step) 201 = .ok (.invokevirtual 593, 3) := dt_Ref_step 122
theorem d_Ref_step_204 : decode (jm_cod M_Ref_step) 204 = .ok (.iinc 2 1, 3) := dt_Ref_step 123
theorem d_Ref_step_207 : decode (jm_cod M_Ref_step) 207 = .ok (.goto (-130), 3) := dt_Ref_step 124
theorem d_Ref_step_210 : decode (jm_cod M_Ref_step) 210 = .ok (.aload_n 0, 1) := dt_Ref_step 125
theorem d_Ref_step_211 : decode (jm_cod M_Ref_step) 211 = .ok (.invokevirtual 596, 3) := dt_Ref_step 126
theorem d_Ref_step_214 : decode (jm_cod M_Ref_step) 214 = .ok (.aload_n 0, 1) := dt_Ref_step 127
theorem d_Ref_step_215 : decode (jm_cod M_Ref_step) 215 = .ok (.dup, 1) := dt_Ref_step 128
theorem d_Ref_step_216 : decode (jm_cod M_Ref_step) 216 = .ok (.getfield 348, 3) := dt_Ref_step 129
theorem d_Ref_step_219 : decode (jm_cod M_Ref_step) 219 = .ok (.iconst 1, 1) := dt_Ref_step 130
theorem d_Ref_step_220 : decode (jm_cod M_Ref_step) 220 = .ok (.iadd, 1) := dt_Ref_step 131
theorem d_Ref_step_221 : decode (jm_cod M_Ref_step) 221 = .ok (.putfield 348, 3) := dt_Ref_step 132
theorem d_Ref_step_224 : decode (jm_cod M_Ref_step) 224 = .ok (.iload_n 1, 1) := dt_Ref_step 133
theorem d_Ref_step_225 : decode (jm_cod M_Ref_step) 225 = .ok (.ireturn, 1) := dt_Ref_step 134
def tab_Ref_showMaster : List (Nat × Instr × Nat) := [(0, .aload_n 0, 1), (1, .iload_n 1, 1), (2, .iconst 0, 1), (3, .invokevirtual 380, 3), (6, .aload_n 0, 1), (7, .iload_n 1, 1), (8, .invokevirtual 384, 3), (11, .aload_n 0, 1), (12, .iload_n 1, 1), (13, .iconst 3, 1), (14, .invokevirtual 380, 3), (17, .aload_n 0, 1), (18, .getfield 91, 3), (21, .iconst 5, 1), (22, .iload_n 1, 1), (23, .imul, 1), (24, .iconst 0, 1), (25, .iadd, 1), (26, .aload_n 0, 1), (27, .aload_n 0, 1), (28, .iconst 0, 1), (29, .iload_n 1, 1), (30, .iconst 0, 1), (31, .invokevirtual 388, 3), (34, .invokevirtual 392, 3), (37, .bastore, 1), (38, .aload_n 0, 1), (39, .getfield 91, 3), (42, .iconst 5, 1), (43, .iload_n 1, 1), (44, .imul, 1), (45, .iconst 1, 1), (46, .iadd, 1), (47, .aload_n 0, 1), (48, .aload_n 0, 1), (49, .iconst 0, 1), (50, .iload_n 1, 1), (51, .iconst 1, 1), (52, .invokevirtual 388, 3), (55, .invokevirtual 392, 3), (58, .bastore, 1), (59, .aload_n 0, 1), (60, .getfield 91, 3), (63, .iconst 5, 1), (64, .iload_n 1, 1), (65, .imul, 1), (66, .iconst 3, 1), (67, .iadd, 1), (68, .aload_n 0, 1), (69, .aload_n 0, 1), (70, .iconst 0, 1), (71, .iload_n 1, 1), (72, .iconst 3, 1), (73, .invokevirtual 388, 3), (76, .invokevirtual 392, 3), (79, .bastore, 1), (80, .iconst 2, 1), (81, .istore_n 2, 1), (82, .iload_n 2, 1), (83, .iconst 4, 1), (84, .if_icmp .gt 83, 3), (87, .aload_n 0, 1), (88, .iconst 0, 1), (89, .iload_n 1, 1), (90, .iload_n 2, 1), (91, .invokevirtual 388, 3), (94, .istore_n 3, 1), (95, .aload_n 0, 1), (96, .iconst 5, 1), (97, .iload_n 1, 1), (98, .imul, 1), (99, .iload_n 2, 1), (100, .iadd, 1), (101, .aload_n 0, 1), (102, .getfield 115, 3), (105, .iload_n 3, 1), (106, .iaload, 1), (107, .ifCond .le 7, 3), (110, .iconst 1, 1), (111, .goto 4, 3), (114, .iconst 0, 1), (115, .aload_n 0, 1), (116, .getfield 106, 3), (119, .iconst 4, 1), (120, .iload_n 3, 1), (121, .imul, 1), (122, .laload, 1), (123, .aload_n 0, 1), (124, .getfield 109, 3), (127, .iconst 4, 1), (128, .iload_n 3, 1), (129, .imul, 1), (130, .iaload, 1), (131, .invokevirtual 359, 3), (134, .aload_n 0, 1), (135, .getfield 91, 3), (138, .iconst 5, 1), (139, .iload_n 1, 1), (140, .imul, 1), (141, .iload_n 2, 1), (142, .iadd, 1), (143, .aload_n 0, 1), (144, .getfield 13, 3), (147, .iconst 5, 1), (148, .iload_n 1, 1), (149, .imul, 1), (150, .iload_n 2, 1), (151, .iadd, 1), (152, .iaload, 1), (153, .aload_n 0, 1), (154, .getfield 348, 3), (157, .invokestatic 351, 3), (160, .bastore, 1), (161, .iinc 2 2, 3), (164, .goto (-82), 3), (167, .return_, 1)]
theorem dt_Ref_showMaster (i : Nat) : decode (jm_cod M_Ref_showMaster) (tab_Ref_showMaster.getD i (0, .aload_n 0, 1)).1 = .ok ((tab_Ref_showMaster.getD i (0, .aload_n 0, 1)).2.1, (tab_Ref_showMaster.getD i (0, .aload_n 0, 1)).2.2) := j_tab (by decide +kernel) i
theorem d_Ref_showMaster_0 : decode (jm_cod M_Ref_showMaster) 0 = .ok (.aload_n 0, 1) := dt_Ref_showMaster 0
theorem d_Ref_showMaster_1 : decode (jm_cod M_Ref_showMaster) 1 = .ok (.iload_n 1, 1) := dt_Ref_showMaster 1
theorem d_Ref_showMaster_2 : decode (jm_cod M_Ref_showMaster) 2 = .ok (.iconst 0, 1) := dt_Ref_showMaster 2
theorem d_Ref_showMaster_3 : decode (jm_cod M_Ref_showMaster) 3 = .ok (.invokevirtual 380, 3) := dt_Ref_showMaster 3
theorem d_Ref_showMaster_6 : decode (jm_cod M_Ref_showMaster) 6 = .ok (.aload_n 0, 1) := dt_Ref_showMaster 4
theorem d_Ref_showMaster_7 : decode (jm_cod M_Ref_showMaster) 7 = .ok (.iload_n 1, 1) := dt_Ref_showMaster 5
theorem d_Ref_showMaster_8 : decode (jm_cod M_Ref_showMaster) 8 = .ok (.invokevirtual 384, 3) := dt_Ref_showMaster 6
theorem d_Ref_showMaster_11 : decode (jm_cod M_Ref_showMaster) 11 = .ok (.aload_n 0, 1) := dt_Ref_showMaster 7
theorem d_Ref_showMaster_12 : decode (jm_cod M_Ref_showMaster) 12 = .ok (.iload_n 1, 1) := dt_Ref_showMaster 8
theorem d_Ref_showMaster_13 : decode (jm_cod M_Ref_showMaster) 13 = .ok (.iconst 3, 1) := dt_Ref_showMaster 9
theorem d_Ref_showMaster_14 : decode (jm_cod M_Ref_showMaster) 14 = .ok (.invokevirtual 380, 3) := dt_Ref_showMaster 10
theorem d_Ref_showMaster_17 : decode (jm_cod M_Ref_showMaster) 17 = .ok (.aload_n 0, 1) := dt_Ref_showMaster 11
theorem d_Ref_showMaster_18 : decode (jm_cod M_Ref_showMaster) 18 = .ok (.getfield 91, 3) := dt_Ref_showMaster 12
theorem d_Ref_showMaster_21 : decode (jm_cod M_Ref_showMaster) 21 = .ok (.iconst 5, 1) := dt_Ref_showMaster 13
theorem d_Ref_showMaster_22 : decode (jm_cod M_Ref_showMaster) 22 = .ok (.iload_n 1, 1) := dt_Ref_showMaster 14
theorem d_Ref_showMaster_23 : decode (jm_cod M_Ref_showMaster) 23 = .ok (.imul, 1) := dt_Ref_showMaster 15
theorem d_Ref_showMaster_24 : decode (jm_cod M_Ref_showMaster) 24 = .ok (.iconst 0, 1) := dt_Ref_showMaster 16
theorem d_Ref_showMaster_25 : decode (jm_cod M_Ref_showMaster) 25 = .ok (.iadd, 1) := dt_Ref_showMaster 17
theorem d_Ref_showMaster_26 : decode (jm_cod M_Ref_showMaster) 26 = .ok (.aload_n 0, 1) := dt_Ref_showMaster 18
theorem d_Ref_showMaster_27 : decode (jm_cod M_Ref_showMaster) 27 = .ok (.aload_n 0, 1) := dt_Ref_showMaster 19
theorem d_Ref_showMaster_28 : decode (jm_cod M_Ref_showMaster) 28 = .ok (.iconst 0, 1) := dt_Ref_showMaster 20
theorem d_Ref_showMaster_29 : decode (jm_cod M_Ref_showMaster) 29 = .ok (.iload_n 1, 1) := dt_Ref_showMaster 21
theorem d_Ref_showMaster_30 : decode (jm_cod M_Ref_showMaster) 30 = .ok (.iconst 0, 1) := dt_Ref_showMaster 22
theorem d_Ref_showMaster_31 : decode (jm_cod M_Ref_showMaster) 31 = .ok (.invokevirtual 388, 3) := dt_Ref_showMaster 23
theorem d_Ref_showMaster_34 : decode (jm_cod M_Ref_showMaster) 34 = .ok (.invokevirtual 392, 3) := dt_Ref_showMaster 24
theorem d_Ref_showMaster_37 : decode (jm_cod M_Ref_showMaster) 37 = .ok (.bastore, 1) := dt_Ref_showMaster 25
theorem d_Ref_showMaster_38 : decode (jm_cod M_Ref_showMaster) 38 = .ok (.aload_n 0, 1) := dt_Ref_showMaster 26
theorem d_Ref_showMaster_39 : decode (jm_cod M_Ref_showMaster) 39 = .ok (.getfield 91, 3) := dt_Ref_showMaster 27
theorem d_Ref_showMaster_42 : decode (jm_cod M_Ref_showMaster) 42 = .ok (.iconst 5, 1) := dt_Ref_showMaster 28
theorem d_Ref_showMaster_43 : decode (jm_cod M_Ref_showMaster) 43 = .ok (.iload_n 1, 1) := dt_Ref_showMaster 29
theorem d_Ref_showMaster_44 : decode (jm_cod M_Ref_showMaster) 44 = .ok (.imul, 1) := dt_Ref_showMaster 30
theorem d_Ref_showMaster_45 : decode (jm_cod M_Ref_showMaster) 45 = .ok (.iconst 1, 1) := dt_Ref_showMaster 31
theorem d_Ref_showMaster_46 : decode (jm_cod M_Ref_showMaster) 46 = .ok (.iadd, 1) := dt_Ref_showMaster 32
theorem d_Ref_showMaster_47 : decode (jm_cod M_Ref_showMaster) 47 = .ok (.aload_n 0, 1) := dt_Ref_showMaster 33
theorem d_Ref_showMaster_48 : decode (jm_cod M_Ref_showMaster) 48 = .ok (.aload_n 0, 1) := dt_Ref_showMaster 34
theorem d_Ref_showMaster_49 : decode (jm_cod M_Ref_showMaster) 49 = .ok (.iconst 0, 1) := dt_Ref_showMaster 35
theorem d_Ref_showMaster_50 : decode (jm_cod M_Ref_showMaster) 50 = .ok (.iload_n 1, 1) := dt_Ref_showMaster 36
theorem d_Ref_showMaster_51 : decode (jm_cod M_Ref_showMaster) 51 = .ok (.iconst 1, 1) := dt_Ref_showMaster 37
theorem d_Ref_showMaster_52 : decode (jm_cod M_Ref_showMaster) 52 = .ok (.invokevirtual 388, 3) := dt_Ref_showMaster 38
theorem d_Ref_showMaster_55 : decode (jm_cod M_Ref_showMaster) 55 = .ok (.invokevirtual 392, 3) := dt_Ref_showMaster 39
theorem d_Ref_showMaster_58 : decode (jm_cod M_Ref_showMaster) 58 = .ok (.bastore, 1) := dt_Ref_showMaster 40
theorem d_Ref_showMaster_59 : decode (jm_cod M_Ref_showMaster) 59 = .ok (.aload_n 0, 1) := dt_Ref_showMaster 41
theorem d_Ref_showMaster_60 : decode (jm_cod M_Ref_showMaster) 60 = .ok (.getfield 91, 3) := dt_Ref_showMaster 42
theorem d_Ref_showMaster_63 : decode (jm_cod M_Ref_showMaster) 63 = .ok (.iconst 5, 1) := dt_Ref_showMaster 43
theorem d_Ref_showMaster_64 : decode (jm_cod M_Ref_showMaster) 64 = .ok (.iload_n 1, 1) := dt_Ref_showMaster 44
theorem d_Ref_showMaster_65 : decode (jm_cod M_Ref_showMaster) 65 = .ok (.imul, 1) := dt_Ref_showMaster 45
theorem d_Ref_showMaster_66 : decode (jm_cod M_Ref_showMaster) 66 = .ok (.iconst 3, 1) := dt_Ref_showMaster 46
theorem d_Ref_showMaster_67 : decode (jm_cod M_Ref_showMaster) 67 = .ok (.iadd, 1) := dt_Ref_showMaster 47
theorem d_Ref_showMaster_68 : decode (jm_cod M_Ref_showMaster) 68 = .ok (.aload_n 0, 1) := dt_Ref_showMaster 48
theorem d_Ref_showMaster_69 : decode (jm_cod M_Ref_showMaster) 69 = .ok (.aload_n 0, 1) := dt_Ref_showMaster 49
theorem d_Ref_showMaster_70 : decode (jm_cod M_Ref_showMaster) 70 = .ok (.iconst 0, 1) := dt_Ref_showMaster 50
theorem d_Ref_showMaster_71 : decode (jm_cod M_Ref_showMaster) 71 = .ok (.iload_n 1, 1) := dt_Ref_showMaster 51
theorem d_Ref_showMaster_72 : decode (jm_cod M_Ref_showMaster) 72 = .ok (.iconst 3, 1) := dt_Ref_showMaster 52
theorem d_Ref_showMaster_73 : decode (jm_cod M_Ref_showMaster) 73 = .ok (.invokevirtual 388, 3) := dt_Ref_showMaster 53
theorem d_Ref_showMaster_76 : decode (jm_cod M_Ref_showMaster) 76 = .ok (.invokevirtual 392, 3) := dt_Ref_showMaster 54
theorem d_Ref_showMaster_79 : decode (jm_cod M_Ref_showMaster) 79 = .ok (.bastore, 1) := dt_Ref_showMaster 55
theorem d_Ref_showMaster_80 : decode (jm_cod M_Ref_showMaster) 80 = .ok (.iconst 2, 1) := dt_Ref_showMaster 56
theorem d_Ref_showMaster_81 : decode (jm_cod M_Ref_showMaster) 81 = .ok (.istore_n 2, 1) := dt_Ref_showMaster 57
theorem d_Ref_showMaster_82 : decode (jm_cod M_Ref_showMaster) 82 = .ok (.iload_n 2, 1) := dt_Ref_showMaster 58
theorem d_Ref_showMaster_83 : decode (jm_cod M_Ref_showMaster) 83 = .ok (.iconst 4, 1) := dt_Ref_showMaster 59
theorem d_Ref_showMaster_84 : decode (jm_cod M_Ref_showMaster) 84 = .ok (.if_icmp .gt 83, 3) := dt_Ref_showMaster 60
theorem d_Ref_showMaster_87 : decode (jm_cod M_Ref_showMaster) 87 = .ok (.aload_n 0, 1) := dt_Ref_showMaster 61
theorem d_Ref_showMaster_88 : decode (jm_cod M_Ref_showMaster) 88 = .ok (.iconst 0, 1) := dt_Ref_showMaster 62
theorem d_Ref_showMaster_89 : decode (jm_cod M_Ref_showMaster) 89 = .ok (.iload_n 1, 1) := dt_Ref_showMaster 63
theorem d_Ref_showMaster_90 : decode (jm_cod M_Ref_showMaster) 90 = .ok (.iload_n 2, 1) := dt_Ref_showMaster 64
theorem d_Ref_showMaster_91 : decode (jm_cod M_Ref_showMaster) 91 = .ok (.invokevirtual 388, 3) := dt_Ref_showMaster 65
theorem d_Ref_showMaster_94 : decode (jm_cod M_Ref_showMaster) 94 = .ok (.istore_n 3, 1) := dt_Ref_showMaster 66
theorem d_Ref_showMaster_95 : decode (jm_cod M_Ref_showMaster) 95 = .ok (.aload_n 0, 1) := dt_Ref_showMaster 67
theorem d_Ref_showMaster_96 : decode (jm_cod M_Ref_showMaster) 96 = .ok (.iconst 5, 1) := dt_Ref_showMaster 68
theorem d_Ref_showMaster_97 : decode (jm_cod M_Ref_showMaster) 97 = .ok (.iload_n 1, 1) := dt_Ref_showMaster 69
theorem d_Ref_showMaster_98 : decode (jm_cod M_Ref_showMaster) 98 = .ok (.imul, 1) := dt_Ref_showMaster 70
theorem d_Ref_showMaster_99 : decode (jm_cod M_Ref_showMaster) 99 = .ok (.iload_n 2, 1) := dt_Ref_showMaster 71
theorem d_Ref_showMaster_100 : decode (jm_cod M_Ref_showMaster) 100 = .ok (.iadd, 1) := dt_Ref_showMaster 72
theorem d_Ref_showMaster_101 : decode (jm_cod M_Ref_showMaster) 101 = .ok (.aload_n 0, 1) := dt_Ref_showMaster 73
theorem d_Ref_showMaster_102 : decode (jm_cod M_Ref_showMaster) 102 = .ok (.getfield 115, 3) := dt_Ref_showMaster 74
theorem d_Ref_showMaster_105 : decode (jm_cod M_Ref_showMaster) 105 = .ok (.iload_n 3, 1) := dt_Ref_showMaster 75
theorem d_Ref_showMaster_106 : decode (jm_cod M_Ref_showMaster) 106 = .ok (.iaload, 1) := dt_Ref_showMaster 76
theorem d_Ref_showMaster_107 : decode (jm_cod M_Ref_showMaster) 107 = .ok (.ifCond .le 7, 3) := dt_Ref_showMaster 77
theorem d_Ref_showMaster_110 : decode (jm_cod M_Ref_showMaster) 110 = .ok (.iconst 1, 1) := dt_Ref_showMaster 78
theorem d_Ref_showMaster_111 : decode (jm_cod M_Ref_showMaster) 111 = .ok (.goto 4, 3) := dt_Ref_showMaster 79
theorem d_Ref_showMaster_114 : decode (jm_cod M_Ref_showMaster) 114 = .ok (.iconst 0, 1) := dt_Ref_showMaster 80
theorem d_Ref_showMaster_115 : decode (jm_cod M_Ref_showMaster) 115 = .ok (.aload_n 0, 1) := dt_Ref_showMaster 81
theorem d_Ref_showMaster_116 : decode (jm_cod M_Ref_showMaster) 116 = .ok (.getfield 106, 3) := dt_Ref_showMaster 82
theorem d_Ref_showMaster_119 : decode (jm_cod M_Ref_showMaster) 119 = .ok (.iconst 4, 1) := dt_Ref_showMaster 83
theorem d_Ref_showMaster_120 : decode (jm_cod M_Ref_showMaster) 120 = .ok (.iload_n 3, 1) := dt_Ref_showMaster 84
theorem d_Ref_showMaster_121 : decode (jm_cod M_Ref_showMaster) 121 = .ok (.imul, 1) := dt_Ref_showMaster 85
theorem d_Ref_showMaster_122 : decode (jm_cod M_Ref_showMaster) 122 = .ok (.laload, 1) := dt_Ref_showMaster 86
theorem d_Ref_showMaster_123 : decode (jm_cod M_Ref_showMaster) 123 = .ok (.aload_n 0, 1) := dt_Ref_showMaster 87
theorem d_Ref_showMaster_124 : decode (jm_cod M_Ref_showMaster) 124 = .ok (.getfield 109, 3) := dt_Ref_showMaster 88
theorem d_Ref_showMaster_127 : decode (jm_cod M_Ref_showMaster) 127 = .ok (.iconst 4, 1) := dt_Ref_showMaster 89
theorem d_Ref_showMaster_128 : decode (jm_cod M_Ref_showMaster) 128 = .ok (.iload_n 3, 1) := dt_Ref_showMaster 90
theorem d_Ref_showMaster_129 : decode (jm_cod M_Ref_showMaster) 129 = .ok (.imul, 1) := dt_Ref_showMaster 91
theorem d_Ref_showMaster_130 : decode (jm_cod M_Ref_showMaster) 130 = .ok (.iaload, 1) := dt_Ref_showMaster 92
theorem d_Ref_showMaster_131 : decode (jm_cod M_Ref_showMaster) 131 = .ok (.invokevirtual 359, 3) := dt_Ref_showMaster 93
theorem d_Ref_showMaster_134 : decode (jm_cod M_Ref_showMaster) 134 = .ok (.aload_n 0, 1) := dt_Ref_showMaster 94
theorem d_Ref_showMaster_135 : decode (jm_cod M_Ref_showMaster) 135 = .ok (.getfield 91, 3) := dt_Ref_showMaster 95
theorem d_Ref_showMaster_138 : decode (jm_cod M_Ref_showMaster) 138 = .ok (.iconst 5, 1) := dt_Ref_showMaster 96
theorem d_Ref_showMaster_139 : decode (jm_cod M_Ref_showMaster) 139 = .ok (.iload_n 1, 1) := dt_Ref_showMaster 97
theorem d_Ref_showMaster_140 : decode (jm_cod M_Ref_showMaster) 140 = .ok (.imul, 1) := dt_Ref_showMaster 98
theorem d_Ref_showMaster_141 : decode (jm_cod M_Ref_showMaster) 141 = .ok (.iload_n 2, 1) := dt_Ref_showMaster 99
theorem d_Ref_showMaster_142 : decode (jm_cod M_Ref_showMaster) 142 = .ok (.iadd, 1) := dt_Ref_showMaster 100
theorem d_Ref_showMaster_143 : decode (jm_cod M_Ref_showMaster) 143 = .ok (.aload_n 0, 1) := dt_Ref_showMaster 101
theorem d_Ref_showMaster_144 : decode (jm_cod M_Ref_showMaster) 144 = .ok (.getfield 13, 3) := dt_Ref_showMaster 102
theorem d_Ref_showMaster_147 : decode (jm_cod M_Ref_showMaster) 147 = .ok (.iconst 5, 1) := dt_Ref_showMaster 103
theorem d_Ref_showMaster_148 : decode (jm_cod M_Ref_showMaster) 148 = .ok (.iload_n 1, 1) := dt_Ref_showMaster 104
theorem d_Ref_showMaster_149 : decode (jm_cod M_Ref_showMaster) 149 = .ok (.imul, 1) := dt_Ref_showMaster 105
theorem d_Ref_showMaster_150 : decode (jm_cod M_Ref_showMaster) 150 = .ok (.iload_n 2, 1) := dt_Ref_showMaster 106
theorem d_Ref_showMaster_151 : decode (jm_cod M_Ref_showMaster) 151 = .ok (.iadd, 1) := dt_Ref_showMaster 107
theorem d_Ref_showMaster_152 : decode (jm_cod M_Ref_showMaster) 152 = .ok (.iaload, 1) := dt_Ref_showMaster 108
theorem d_Ref_showMaster_153 : decode (jm_cod M_Ref_showMaster) 153 = .ok (.aload_n 0, 1) := dt_Ref_showMaster 109
theorem d_Ref_showMaster_154 : decode (jm_cod M_Ref_showMaster) 154 = .ok (.getfield 348, 3) := dt_Ref_showMaster 110
theorem d_Ref_showMaster_157 : decode (jm_cod M_Ref_showMaster) 157 = .ok (.invokestatic 351, 3) := dt_Ref_showMaster 111
theorem d_Ref_showMaster_160 : decode (jm_cod M_Ref_showMaster) 160 = .ok (.bastore, 1) := dt_Ref_showMaster 112
theorem d_Ref_showMaster_161 : decode (jm_cod M_Ref_showMaster) 161 = .ok (.iinc 2 2, 3) := dt_Ref_showMaster 113
theorem d_Ref_showMaster_164 : decode (jm_cod M_Ref_showMaster) 164 = .ok (.goto (-82), 3) := dt_Ref_showMaster 114
theorem d_Ref_showMaster_167 : decode (jm_cod M_Ref_showMaster) 167 = .ok (.return_, 1) := dt_Ref_showMaster 115
def tab_Ref_showAddress : List (Nat × Instr × Nat) := [(0, .iconst 5, 1), (1, .iload_n 1, 1), (2, .imul, 1), (3, .iload_n 2, 1), (4, .iadd, 1), (5, .istore_n 3, 1), (6, .aload_n 0, 1), (7, .iload_n 1, 1), (8, .iload_n 2, 1), (9, .ifCond .ne 7, 3), (12, .iconst 1, 1), (13, .goto 4, 3), (16, .iconst 0, 1), (17, .invokevirtual 344, 3), (20, .istore 4, 2), (22, .aload_n 0, 1), (23, .getfield 100, 3), (26, .iload_n 3, 1), (27, .baload, 1), (28, .ifCond .ne 25, 3), (31, .iload 4, 2), (33, .iconst (-1), 1), (34, .if_icmp .eq 23, 3), (37, .aload_n 0, 1), (38, .getfield 13, 3), (41, .iload_n 3, 1), (42, .iaload, 1), (43, .aload_n 0, 1), (44, .getfield 348, 3), (47, .invokestatic 351, 3), (50, .ifCond .eq 7, 3), (53, .iconst 1, 1), (54, .goto 4, 3), (57, .iconst 0, 1), (58, .istore 5, 2), (60, .aload_n 0, 1), (61, .iload_n 3, 1), (62, .iload 5, 2), (64, .iload 4, 2), (66, .iconst (-1), 1), (67, .if_icmp .ne 7, 3), (70, .lconst 0, 1), (71, .goto 9, 3), (74, .aload_n 0, 1), (75, .iload 4, 2), (77, .invokevirtual 355, 3), (80, .iconst 0, 1), (81, .invokevirtual 359, 3), (84, .return_, 1)]
theorem dt_Ref_showAddress (i : Nat) : decode (jm_cod M_Ref_showAddress) (tab_Ref_showAddress.getD i (0, .iconst 5, 1)).1 = .ok ((tab_Ref_showAddress.getD i (0, .iconst 5, 1)).2.1, (tab_Ref_showAddress.getD i (0, .iconst 5, 1)).2.2) := j_tab (by decide +kernel) i
theorem d_Ref_showAddress_0 : decode (jm_cod M_Ref_showAddress) 0 = .ok (.iconst 5, 1) := dt_Ref_showAddress 0
theorem d_Ref_showAddress_1 : decode (jm_cod M_Ref_showAddress) 1 = .ok (.iload_n 1, 1) := dt_Ref_showAddress 1
theorem d_Ref_showAddress_2 : decode (jm_cod M_Ref_showAddress) 2 = .ok (.imul, 1) := dt_Ref_showAddress 2
theorem d_Ref_showAddress_3 : decode (jm_cod M_Ref_showAddress) 3 = .ok (.iload_n 2, 1) := dt_Ref_showAddress 3
theorem d_Ref_showAddress_4 : decode (jm_cod M_Ref_showAddress) 4 = .ok (.iadd, 1) := dt_Ref_showAddress 4
theorem d_Ref_showAddress_5 : decode (jm_cod M_Ref_showAddress) 5 = .ok (.istore_n 3, 1) := dt_Ref_showAddress 5
theorem d_Ref_showAddress_6 : decode (jm_cod M_Ref_showAddress) 6 = .ok (.aload_n 0, 1) := dt_Ref_showAddress 6
theorem d_Ref_showAddress_7 : decode (jm_cod M_Ref_showAddress) 7 = .ok (.iload_n 1, 1) := dt_Ref_showAddress 7
theorem d_Ref_showAddress_8 : decode (jm_cod M_Ref_showAddress) 8 = .ok (.iload_n 2, 1) := dt_Ref_showAddress 8
theorem d_Ref_showAddress_9 : decode (jm_cod M_Ref_showAddress) 9 = .ok (.ifCond .ne 7, 3) := dt_Ref_showAddress 9
theorem d_Ref_showAddress_12 : decode (jm_cod M_Ref_showAddress) 12 = .ok (.iconst 1, 1) := dt_Ref_showAddress 10
theorem d_Ref_showAddress_13 : decode (jm_cod M_Ref_showAddress) 13 = .ok (.goto 4, 3) := dt_Ref_showAddress 11
theorem d_Ref_showAddress_16 : decode (jm_cod M_Ref_showAddress) 16 = .ok (.iconst 0, 1) := dt_Ref_showAddress 12
theorem d_Ref_showAddress_17 : decode (jm_cod M_Ref_showAddress) 17 = .ok (.invokevirtual 344, 3) := dt_Ref_showAddress 13
theorem d_Ref_showAddress_20 : decode (jm_cod M_Ref_showAddress) 20 = .ok (.istore 4, 2) := dt_Ref_showAddress 14
theorem d_Ref_showAddress_22 : decode (jm_cod M_Ref_showAddress) 22 = .ok (.aload_n 0, 1) := dt_Ref_showAddress 15
theorem d_Ref_showAddress_23 : decode (jm_cod M_Ref_showAddress) 23 = .ok (.getfield 100, 3) := dt_Ref_showAddress 16
theorem d_Ref_showAddress_26 : decode (jm_cod M_Ref_showAddress) 26 = .ok (.iload_n 3, 1) := dt_Ref_showAddress 17
theorem d_Ref_showAddress_27 : decode (jm_cod M_Ref_showAddress) 27 = .ok (.baload, 1) := dt_Ref_showAddress 18
theorem d_Ref_showAddress_28 : decode (jm_cod M_Ref_showAddress) 28 = .ok (.ifCond .ne 25, 3) := dt_Ref_showAddress 19
theorem d_Ref_showAddress_31 : decode (jm_cod M_Ref_showAddress) 31 = .ok (.iload 4, 2) := dt_Ref_showAddress 20
theorem d_Ref_showAddress_33 : decode (jm_cod M_Ref_showAddress) 33 = .ok (.iconst (-1), 1) := dt_Ref_showAddress 21
theorem d_Ref_showAddress_34 : decode (jm_cod M_Ref_showAddress) 34 = .ok (.if_icmp .eq 23, 3) := dt_Ref_showAddress 22
theorem d_Ref_showAddress_37 : decode (jm_cod M_Ref_showAddress) 37 = .ok (.aload_n 0, 1) := dt_Ref_showAddress 23
theorem d_Ref_showAddress_38 : decode (jm_cod M_Ref_showAddress) 38 = .ok (.getfield 13, 3) := dt_Ref_showAddress 24
theorem d_Ref_showAddress_41 : decode (jm_cod M_Ref_showAddress) 41 = .ok (.iload_n 3, 1) := dt_Ref_showAddress 25
theorem d_Ref_showAddress_42 : decode (jm_cod M_Ref_showAddress) 42 = .ok (.iaload, 1) := dt_Ref_showAddress 26
theorem d_Ref_showAddress_43 : decode (jm_cod M_Ref_showAddress) 43 = .ok (.aload_n 0, 1) := dt_Ref_showAddress 27
theorem d_Ref_showAddress_44 : decode (jm_cod M_Ref_showAddress) 44 = .ok (.getfield 348, 3) := dt_Ref_showAddress 28
theorem d_Ref_showAddress_47 : decode (jm_cod M_Ref_showAddress) 47 = .ok (.invokestatic 351, 3) := dt_Ref_showAddress 29
theorem d_Ref_showAddress_50 : decode (jm_cod M_Ref_showAddress) 50 = .ok (.ifCond .eq 7, 3) := dt_Ref_showAddress 30
theorem d_Ref_showAddress_53 : decode (jm_cod M_Ref_showAddress) 53 = .ok (.iconst 1, 1) := dt_Ref_showAddress 31
theorem d_Ref_showAddress_54 : decode (jm_cod M_Ref_showAddress) 54 = .ok (.goto 4, 3) := dt_Ref_showAddress 32
theorem d_Ref_showAddress_57 : decode (jm_cod M_Ref_showAddress) 57 = .ok (.iconst 0, 1) := dt_Ref_showAddress 33
theorem d_Ref_showAddress_58 : decode (jm_cod M_Ref_showAddress) 58 = .ok (.istore 5, 2) := dt_Ref_showAddress 34
theorem d_Ref_showAddress_60 : decode (jm_cod M_Ref_showAddress) 60 = .ok (.aload_n 0, 1) := dt_Ref_showAddress 35
theorem d_Ref_showAddress_61 : decode (jm_cod M_Ref_showAddress) 61 = .ok (.iload_n 3, 1) := dt_Ref_showAddress 36
theorem d_Ref_showAddress_62 : decode (jm_cod M_Ref_showAddress) 62 = .ok (.iload 5, 2) := dt_Ref_showAddress 37
theorem d_Ref_showAddress_64 : decode (jm_cod M_Ref_showAddress) 64 = .ok (.iload 4, 2) := dt_Ref_showAddress 38
theorem d_Ref_showAddress_66 : decode (jm_cod M_Ref_showAddress) 66 = .ok (.iconst (-1), 1) := dt_Ref_showAddress 39
theorem d_Ref_showAddress_67 : decode (jm_cod M_Ref_showAddress) 67 = .ok (.if_icmp .ne 7, 3) := dt_Ref_showAddress 40
theorem d_Ref_showAddress_70 : decode (jm_cod M_Ref_showAddress) 70 = .ok (.lconst 0, 1) := dt_Ref_showAddress 41
theorem d_Ref_showAddress_71 : decode (jm_cod M_Ref_showAddress) 71 = .ok (.goto 9, 3) := dt_Ref_showAddress 42
theorem d_Ref_showAddress_74 : decode (jm_cod M_Ref_showAddress) 74 = .ok (.aload_n 0, 1) := dt_Ref_showAddress 43
theorem d_Ref_showAddress_75 : decode (jm_cod M_Ref_showAddress) 75 = .ok (.iload 4, 2) := dt_Ref_showAddress 44
theorem d_Ref_showAddress_77 : decode (jm_cod M_Ref_showAddress) 77 = .ok (.invokevirtual 355, 3) := dt_Ref_showAddress 45
theorem d_Ref_showAddress_80 : decode (jm_cod M_Ref_showAddress) 80 = .ok (.iconst 0, 1) := dt_Ref_showAddress 46
theorem d_Ref_showAddress_81 : decode (jm_cod M_Ref_showAddress) 81 = .ok (.invokevirtual 359, 3) := dt_Ref_showAddress 47
theorem d_Ref_showAddress_84 : decode (jm_cod M_Ref_showAddress) 84 = .ok (.return_, 1) := dt_Ref_showAddress 48
def tab_Ref_unsent : List (Nat × Instr × Nat) := [(0, .iconst 0, 1), (1, .istore_n 3, 1), (2, .iload_n 3, 1), (3, .aload_n 0, 1), (4, .getfield 337, 3), (7, .if_icmp .ge 41, 3), (10, .aload_n 0, 1), (11, .getfield 36, 3), (14, .iload_n 3, 1), (15, .iaload, 1), (16, .iload_n 1, 1), (17, .if_icmp .ne 25, 3), (20, .aload_n 0, 1), (21, .getfield 48, 3), (24, .iload_n 3, 1), (25, .baload, 1), (26, .iload_n 2, 1), (27, .if_icmp .ne 15, 3), (30, .aload_n 0, 1), (31, .getfield 73, 3), (34, .iload_n 3, 1), (35, .iaload, 1), (36, .iconst (-1), 1), (37, .if_icmp .ne 5, 3), (40, .iload_n 3, 1), (41, .ireturn, 1), (42, .iinc 3 1, 3), (45, .goto (-43), 3), (48, .iconst (-1), 1), (49, .ireturn, 1)]
theorem dt_Ref_unsent (i : Nat) : decode (jm_cod M_Ref_unsent) (tab_Ref_unsent.getD i (0, .iconst 0, 1)).1 = .ok ((tab_Ref_unsent.getD i (0, .iconst 0, 1)).2.1, (tab_Ref_unsent.getD i (0, .iconst 0, 1)).2.2) := j_tab (by decide +kernel) i
theorem d_Ref_unsent_0 : decode (jm_cod M_Ref_unsent) 0 = .ok (.iconst 0, 1) := dt_Ref_unsent 0
theorem d_Ref_unsent_1 : decode (jm_cod M_Ref_unsent) 1 = .ok (.istore_n 3, 1) := dt_Ref_unsent 1
theorem d_Ref_unsent_2 : decode (jm_cod M_Ref_unsent) 2 = .ok (.iload_n 3, 1) := dt_Ref_unsent 2
theorem d_Ref_unsent_3 : decode (jm_cod M_Ref_unsent) 3 = .ok (.aload_n 0, 1) := dt_Ref_unsent 3
theorem d_Ref_unsent_4 : decode (jm_cod M_Ref_unsent) 4 = .ok (.getfield 337, 3) := dt_Ref_unsent 4
theorem d_Ref_unsent_7 : decode (jm_cod M_Ref_unsent) 7 = .ok (.if_icmp .ge 41, 3) := dt_Ref_unsent 5
theorem d_Ref_unsent_10 : decode (jm_cod M_Ref_unsent) 10 = .ok (.aload_n 0, 1) := dt_Ref_unsent 6
theorem d_Ref_unsent_11 : decode (jm_cod M_Ref_unsent) 11 = .ok (.getfield 36, 3) := dt_Ref_unsent 7
theorem d_Ref_unsent_14 : decode (jm_cod M_Ref_unsent) 14 = .ok (.iload_n 3, 1) := dt_Ref_unsent 8
theorem d_Ref_unsent_15 : decode (jm_cod M_Ref_unsent) 15 = .ok (.iaload, 1) := dt_Ref_unsent 9
theorem d_Ref_unsent_16 : decode (jm_cod M_Ref_unsent) 16 = .ok (.iload_n 1, 1) := dt_Ref_unsent 10
theorem d_Ref_unsent_17 : decode (jm_cod M_Ref_unsent) 17 = .ok (.if_icmp .ne 25, 3) := dt_Ref_unsent 11
theorem d_Ref_unsent_20 : decode (jm_cod M_Ref_unsent) 20 = .ok (.aload_n 0, 1) := dt_Ref_unsent 12
theorem d_Ref_unsent_21 : decode (jm_cod M_Ref_unsent) 21 = .ok (.getfield 48, 3) := dt_Ref_unsent 13
theorem d_Ref_unsent_24 : decode (jm_cod M_Ref_unsent) 24 = .ok (.iload_n 3, 1) := dt_Ref_unsent 14
theorem d_Ref_unsent_25 : decode (jm_cod M_Ref_unsent) 25 = .ok (.baload, 1) := dt_Ref_unsent 15
theorem d_Ref_unsent_26 : decode (jm_cod M_Ref_unsent) 26 = .ok (.iload_n 2, 1) := dt_Ref_unsent 16
theorem d_Ref_unsent_27 : decode (jm_cod M_Ref_unsent) 27 = .ok (.if_icmp .ne 15, 3) := dt_Ref_unsent 17
theorem d_Ref_unsent_30 : decode (jm_cod M_Ref_unsent) 30 = .ok (.aload_n 0, 1) := dt_Ref_unsent 18
theorem d_Ref_unsent_31 : decode (jm_cod M_Ref_unsent) 31 = .ok (.getfield 73, 3) := dt_Ref_unsent 19
theorem d_Ref_unsent_34 : decode (jm_cod M_Ref_unsent) 34 = .ok (.iload_n 3, 1) := dt_Ref_unsent 20
theorem d_Ref_unsent_35 : decode (jm_cod M_Ref_unsent) 35 = .ok (.iaload, 1) := dt_Ref_unsent 21
theorem d_Ref_unsent_36 : decode (jm_cod M_Ref_unsent) 36 = .ok (.iconst (-1), 1) := dt_Ref_unsent 22
theorem d_Ref_unsent_37 : decode (jm_cod M_Ref_unsent) 37 = .ok (.if_icmp .ne 5, 3) := dt_Ref_unsent 23
theorem d_Ref_unsent_40 : decode (jm_cod M_Ref_unsent) 40 = .ok (.iload_n 3, 1) := dt_Ref_unsent 24
theorem d_Ref_unsent_41 : decode (jm_cod M_Ref_unsent) 41 = .ok (.ireturn, 1) := dt_Ref_unsent 25
theorem d_Ref_unsent_42 : decode (jm_cod M_Ref_unsent) 42 = .ok (.iinc 3 1, 3) := dt_Ref_unsent 26
theorem d_Ref_unsent_45 : decode (jm_cod M_Ref_unsent) 45 = .ok (.goto (-43), 3) := dt_Ref_unsent 27
theorem d_Ref_unsent_48 : decode (jm_cod M_Ref_unsent) 48 = .ok (.iconst (-1), 1) := dt_Ref_unsent 28
theorem d_Ref_unsent_49 : decode (jm_cod M_Ref_unsent) 49 = .ok (.ireturn, 1) := dt_Ref_unsent 29
def tab_Ref_tells : List (Nat × Instr × Nat) := [(0, .iload_n 0, 1), (1, .iload_n 1, 1), (2, .bipush 16, 2), (4, .irem, 1), (5, .ishr, 1), (6, .iconst 1, 1), (7, .iand, 1), (8, .iconst 1, 1), (9, .if_icmp .ne 7, 3), (12, .iconst 1, 1), (13, .goto 4, 3), (16, .iconst 0, 1), (17, .ireturn, 1)]
theorem dt_Ref_tells (i : Nat) : decode (jm_cod M_Ref_tells) (tab_Ref_tells.getD i (0, .iload_n 0, 1)).1 = .ok ((tab_Ref_tells.getD i (0, .iload_n 0, 1)).2.1, (tab_Ref_tells.getD i (0, .iload_n 0, 1)).2.2) := j_tab (by decide +kernel) i
theorem d_Ref_tells_0 : decode (jm_cod M_Ref_tells) 0 = .ok (.iload_n 0, 1) := dt_Ref_tells 0
theorem d_Ref_tells_1 : decode (jm_cod M_Ref_tells) 1 = .ok (.iload_n 1, 1) := dt_Ref_tells 1
theorem d_Ref_tells_2 : decode (jm_cod M_Ref_tells) 2 = .ok (.bipush 16, 2) := dt_Ref_tells 2
theorem d_Ref_tells_4 : decode (jm_cod M_Ref_tells) 4 = .ok (.irem, 1) := dt_Ref_tells 3
theorem d_Ref_tells_5 : decode (jm_cod M_Ref_tells) 5 = .ok (.ishr, 1) := dt_Ref_tells 4
theorem d_Ref_tells_6 : decode (jm_cod M_Ref_tells) 6 = .ok (.iconst 1, 1) := dt_Ref_tells 5
theorem d_Ref_tells_7 : decode (jm_cod M_Ref_tells) 7 = .ok (.iand, 1) := dt_Ref_tells 6
theorem d_Ref_tells_8 : decode (jm_cod M_Ref_tells) 8 = .ok (.iconst 1, 1) := dt_Ref_tells 7
theorem d_Ref_tells_9 : decode (jm_cod M_Ref_tells) 9 = .ok (.if_icmp .ne 7, 3) := dt_Ref_tells 8
theorem d_Ref_tells_12 : decode (jm_cod M_Ref_tells) 12 = .ok (.iconst 1, 1) := dt_Ref_tells 9
theorem d_Ref_tells_13 : decode (jm_cod M_Ref_tells) 13 = .ok (.goto 4, 3) := dt_Ref_tells 10
theorem d_Ref_tells_16 : decode (jm_cod M_Ref_tells) 16 = .ok (.iconst 0, 1) := dt_Ref_tells 11
theorem d_Ref_tells_17 : decode (jm_cod M_Ref_tells) 17 = .ok (.ireturn, 1) := dt_Ref_tells 12
def tab_Ref_burstOf : List (Nat × Instr × Nat) := [(0, .aload_n 0, 1), (1, .getfield 63, 3), (4, .iload_n 1, 1), (5, .iaload, 1), (6, .i2l, 1), (7, .ldc2_w 340, 3), (10, .aload_n 0, 1), (11, .getfield 60, 3), (14, .iload_n 1, 1), (15, .iaload, 1), (16, .i2l, 1), (17, .lmul, 1), (18, .ladd, 1), (19, .aload_n 0, 1), (20, .getfield 39, 3), (23, .iload_n 1, 1), (24, .iaload, 1), (25, .i2l, 1), (26, .lconst 1, 1), (27, .lsub, 1), (28, .bipush 22, 2), (30, .lshl, 1), (31, .ladd, 1), (32, .aload_n 0, 1), (33, .getfield 42, 3), (36, .iload_n 1, 1), (37, .iaload, 1), (38, .i2l, 1), (39, .bipush 26, 2), (41, .lshl, 1), (42, .ladd, 1), (43, .aload_n 0, 1), (44, .getfield 45, 3), (47, .iload_n 1, 1), (48, .iaload, 1), (49, .i2l, 1), (50, .bipush 28, 2), (52, .lshl, 1), (53, .ladd, 1), (54, .aload_n 0, 1), (55, .getfield 51, 3), (58, .iload_n 1, 1), (59, .baload, 1), (60, .ifCond .eq 9, 3), (63, .ldc2_w 342, 3), (66, .goto 4, 3), (69, .lconst 0, 1), (70, .ladd, 1), (71, .aload_n 0, 1), (72, .getfield 57, 3), (75, .iload_n 1, 1), (76, .iaload, 1), (77, .i2l, 1), (78, .bipush 31, 2), (80, .lshl, 1), (81, .ladd, 1), (82, .lreturn, 1)]
theorem dt_Ref_burstOf (i : Nat) : decode (jm_cod M_Ref_burstOf) (tab_Ref_burstOf.getD i (0, .aload_n 0, 1)).1 = .ok ((tab_Ref_burstOf.getD i (0, .aload_n 0, 1)).2.1, (tab_Ref_burstOf.getD i (0, .aload_n 0, 1)).2.2) := j_tab (by decide +kernel) i
theorem d_Ref_burstOf_0 : decode (jm_cod M_Ref_burstOf) 0 = .ok (.aload_n 0, 1) := dt_Ref_burstOf 0
theorem d_Ref_burstOf_1 : decode (jm_cod M_Ref_burstOf) 1 = .ok (.getfield 63, 3) := dt_Ref_burstOf 1
theorem d_Ref_burstOf_4 : decode (jm_cod M_Ref_burstOf) 4 = .ok (.iload_n 1, 1) := dt_Ref_burstOf 2
theorem d_Ref_burstOf_5 : decode (jm_cod M_Ref_burstOf) 5 = .ok (.iaload, 1) := dt_Ref_burstOf 3
theorem d_Ref_burstOf_6 : decode (jm_cod M_Ref_burstOf) 6 = .ok (.i2l, 1) := dt_Ref_burstOf 4
theorem d_Ref_burstOf_7 : decode (jm_cod M_Ref_burstOf) 7 = .ok (.ldc2_w 340, 3) := dt_Ref_burstOf 5
theorem d_Ref_burstOf_10 : decode (jm_cod M_Ref_burstOf) 10 = .ok (.aload_n 0, 1) := dt_Ref_burstOf 6
theorem d_Ref_burstOf_11 : decode (jm_cod M_Ref_burstOf) 11 = .ok (.getfield 60, 3) := dt_Ref_burstOf 7
theorem d_Ref_burstOf_14 : decode (jm_cod M_Ref_burstOf) 14 = .ok (.iload_n 1, 1) := dt_Ref_burstOf 8
theorem d_Ref_burstOf_15 : decode (jm_cod M_Ref_burstOf) 15 = .ok (.iaload, 1) := dt_Ref_burstOf 9
theorem d_Ref_burstOf_16 : decode (jm_cod M_Ref_burstOf) 16 = .ok (.i2l, 1) := dt_Ref_burstOf 10
theorem d_Ref_burstOf_17 : decode (jm_cod M_Ref_burstOf) 17 = .ok (.lmul, 1) := dt_Ref_burstOf 11
theorem d_Ref_burstOf_18 : decode (jm_cod M_Ref_burstOf) 18 = .ok (.ladd, 1) := dt_Ref_burstOf 12
theorem d_Ref_burstOf_19 : decode (jm_cod M_Ref_burstOf) 19 = .ok (.aload_n 0, 1) := dt_Ref_burstOf 13
theorem d_Ref_burstOf_20 : decode (jm_cod M_Ref_burstOf) 20 = .ok (.getfield 39, 3) := dt_Ref_burstOf 14
theorem d_Ref_burstOf_23 : decode (jm_cod M_Ref_burstOf) 23 = .ok (.iload_n 1, 1) := dt_Ref_burstOf 15
theorem d_Ref_burstOf_24 : decode (jm_cod M_Ref_burstOf) 24 = .ok (.iaload, 1) := dt_Ref_burstOf 16
theorem d_Ref_burstOf_25 : decode (jm_cod M_Ref_burstOf) 25 = .ok (.i2l, 1) := dt_Ref_burstOf 17
theorem d_Ref_burstOf_26 : decode (jm_cod M_Ref_burstOf) 26 = .ok (.lconst 1, 1) := dt_Ref_burstOf 18
theorem d_Ref_burstOf_27 : decode (jm_cod M_Ref_burstOf) 27 = .ok (.lsub, 1) := dt_Ref_burstOf 19
theorem d_Ref_burstOf_28 : decode (jm_cod M_Ref_burstOf) 28 = .ok (.bipush 22, 2) := dt_Ref_burstOf 20
theorem d_Ref_burstOf_30 : decode (jm_cod M_Ref_burstOf) 30 = .ok (.lshl, 1) := dt_Ref_burstOf 21
theorem d_Ref_burstOf_31 : decode (jm_cod M_Ref_burstOf) 31 = .ok (.ladd, 1) := dt_Ref_burstOf 22
theorem d_Ref_burstOf_32 : decode (jm_cod M_Ref_burstOf) 32 = .ok (.aload_n 0, 1) := dt_Ref_burstOf 23
theorem d_Ref_burstOf_33 : decode (jm_cod M_Ref_burstOf) 33 = .ok (.getfield 42, 3) := dt_Ref_burstOf 24
theorem d_Ref_burstOf_36 : decode (jm_cod M_Ref_burstOf) 36 = .ok (.iload_n 1, 1) := dt_Ref_burstOf 25
theorem d_Ref_burstOf_37 : decode (jm_cod M_Ref_burstOf) 37 = .ok (.iaload, 1) := dt_Ref_burstOf 26
theorem d_Ref_burstOf_38 : decode (jm_cod M_Ref_burstOf) 38 = .ok (.i2l, 1) := dt_Ref_burstOf 27
theorem d_Ref_burstOf_39 : decode (jm_cod M_Ref_burstOf) 39 = .ok (.bipush 26, 2) := dt_Ref_burstOf 28
theorem d_Ref_burstOf_41 : decode (jm_cod M_Ref_burstOf) 41 = .ok (.lshl, 1) := dt_Ref_burstOf 29
theorem d_Ref_burstOf_42 : decode (jm_cod M_Ref_burstOf) 42 = .ok (.ladd, 1) := dt_Ref_burstOf 30
theorem d_Ref_burstOf_43 : decode (jm_cod M_Ref_burstOf) 43 = .ok (.aload_n 0, 1) := dt_Ref_burstOf 31
theorem d_Ref_burstOf_44 : decode (jm_cod M_Ref_burstOf) 44 = .ok (.getfield 45, 3) := dt_Ref_burstOf 32
theorem d_Ref_burstOf_47 : decode (jm_cod M_Ref_burstOf) 47 = .ok (.iload_n 1, 1) := dt_Ref_burstOf 33
theorem d_Ref_burstOf_48 : decode (jm_cod M_Ref_burstOf) 48 = .ok (.iaload, 1) := dt_Ref_burstOf 34
theorem d_Ref_burstOf_49 : decode (jm_cod M_Ref_burstOf) 49 = .ok (.i2l, 1) := dt_Ref_burstOf 35
theorem d_Ref_burstOf_50 : decode (jm_cod M_Ref_burstOf) 50 = .ok (.bipush 28, 2) := dt_Ref_burstOf 36
theorem d_Ref_burstOf_52 : decode (jm_cod M_Ref_burstOf) 52 = .ok (.lshl, 1) := dt_Ref_burstOf 37
theorem d_Ref_burstOf_53 : decode (jm_cod M_Ref_burstOf) 53 = .ok (.ladd, 1) := dt_Ref_burstOf 38
theorem d_Ref_burstOf_54 : decode (jm_cod M_Ref_burstOf) 54 = .ok (.aload_n 0, 1) := dt_Ref_burstOf 39
theorem d_Ref_burstOf_55 : decode (jm_cod M_Ref_burstOf) 55 = .ok (.getfield 51, 3) := dt_Ref_burstOf 40
theorem d_Ref_burstOf_58 : decode (jm_cod M_Ref_burstOf) 58 = .ok (.iload_n 1, 1) := dt_Ref_burstOf 41
theorem d_Ref_burstOf_59 : decode (jm_cod M_Ref_burstOf) 59 = .ok (.baload, 1) := dt_Ref_burstOf 42
theorem d_Ref_burstOf_60 : decode (jm_cod M_Ref_burstOf) 60 = .ok (.ifCond .eq 9, 3) := dt_Ref_burstOf 43
theorem d_Ref_burstOf_63 : decode (jm_cod M_Ref_burstOf) 63 = .ok (.ldc2_w 342, 3) := dt_Ref_burstOf 44
theorem d_Ref_burstOf_66 : decode (jm_cod M_Ref_burstOf) 66 = .ok (.goto 4, 3) := dt_Ref_burstOf 45
theorem d_Ref_burstOf_69 : decode (jm_cod M_Ref_burstOf) 69 = .ok (.lconst 0, 1) := dt_Ref_burstOf 46
theorem d_Ref_burstOf_70 : decode (jm_cod M_Ref_burstOf) 70 = .ok (.ladd, 1) := dt_Ref_burstOf 47
theorem d_Ref_burstOf_71 : decode (jm_cod M_Ref_burstOf) 71 = .ok (.aload_n 0, 1) := dt_Ref_burstOf 48
theorem d_Ref_burstOf_72 : decode (jm_cod M_Ref_burstOf) 72 = .ok (.getfield 57, 3) := dt_Ref_burstOf 49
theorem d_Ref_burstOf_75 : decode (jm_cod M_Ref_burstOf) 75 = .ok (.iload_n 1, 1) := dt_Ref_burstOf 50
theorem d_Ref_burstOf_76 : decode (jm_cod M_Ref_burstOf) 76 = .ok (.iaload, 1) := dt_Ref_burstOf 51
theorem d_Ref_burstOf_77 : decode (jm_cod M_Ref_burstOf) 77 = .ok (.i2l, 1) := dt_Ref_burstOf 52
theorem d_Ref_burstOf_78 : decode (jm_cod M_Ref_burstOf) 78 = .ok (.bipush 31, 2) := dt_Ref_burstOf 53
theorem d_Ref_burstOf_80 : decode (jm_cod M_Ref_burstOf) 80 = .ok (.lshl, 1) := dt_Ref_burstOf 54
theorem d_Ref_burstOf_81 : decode (jm_cod M_Ref_burstOf) 81 = .ok (.ladd, 1) := dt_Ref_burstOf 55
theorem d_Ref_burstOf_82 : decode (jm_cod M_Ref_burstOf) 82 = .ok (.lreturn, 1) := dt_Ref_burstOf 56
def tab_Ref_showData : List (Nat × Instr × Nat) := [(0, .iconst 5, 1), (1, .iload_n 1, 1), (2, .imul, 1), (3, .iconst 1, 1), (4, .iadd, 1), (5, .istore_n 2, 1), (6, .aload_n 0, 1), (7, .iload_n 1, 1), (8, .invokevirtual 363, 3), (11, .istore_n 3, 1), (12, .iload_n 3, 1), (13, .iconst (-1), 1), (14, .if_icmp .eq 26, 3), (17, .aload_n 0, 1), (18, .getfield 73, 3), (21, .iload_n 3, 1), (22, .iaload, 1), (23, .iconst (-1), 1), (24, .if_icmp .ne 12, 3), (27, .aload_n 0, 1), (28, .getfield 19, 3), (31, .iload_n 1, 1), (32, .baload, 1), (33, .ifCond .eq 7, 3), (36, .iconst 1, 1), (37, .goto 4, 3), (40, .iconst 0, 1), (41, .istore 4, 2), (43, .aload_n 0, 1), (44, .getfield 100, 3), (47, .iload_n 2, 1), (48, .baload, 1), (49, .ifCond .ne 24, 3), (52, .iload 4, 2), (54, .ifCond .eq 23, 3), (57, .aload_n 0, 1), (58, .getfield 13, 3), (61, .iload_n 2, 1), (62, .iaload, 1), (63, .aload_n 0, 1), (64, .getfield 348, 3), (67, .invokestatic 351, 3), (70, .ifCond .eq 7, 3), (73, .iconst 1, 1), (74, .goto 4, 3), (77, .iconst 0, 1), (78, .istore 5, 2), (80, .iload 5, 2), (82, .ifCond .ne 12, 3), (85, .aload_n 0, 1), (86, .iload_n 2, 1), (87, .iconst 0, 1), (88, .lconst 0, 1), (89, .iconst 0, 1), (90, .invokevirtual 359, 3), (93, .return_, 1), (94, .aload_n 0, 1), (95, .iload_n 3, 1), (96, .invokevirtual 355, 3), (99, .lstore 6, 2), (101, .lload 6, 2), (103, .aload_n 0, 1), (104, .getfield 79, 3), (107, .iload_n 3, 1), (108, .iaload, 1), (109, .invokestatic 366, 3), (112, .lload 6, 2), (114, .invokestatic 318, 3), (117, .invokestatic 370, 3), (120, .istore 8, 2), (122, .aload_n 0, 1), (123, .getfield 66, 3), (126, .iload_n 3, 1), (127, .laload, 1), (128, .ldc2_w 373, 3), (131, .lmul, 1), (132, .ldc2_w 375, 3), (135, .ladd, 1), (136, .lstore 9, 2), (138, .iload 8, 2), (140, .istore 11, 2), (142, .iconst 0, 1), (143, .istore 12, 2), (145, .iload 12, 2), (147, .bipush 8, 2), (149, .if_icmp .ge 50, 3), (152, .aload_n 0, 1), (153, .getfield 54, 3), (156, .iload_n 3, 1), (157, .baload, 1), (158, .ifCond .eq 41, 3), (161, .iload 11, 2), (163, .lload 9, 2), (165, .bipush 56, 2), (167, .iload 12, 2), (169, .iadd, 1), (170, .lshr, 1), (171, .lconst 1, 1), (172, .land, 1), (173, .lconst 1, 1), (174, .lcmp, 1), (175, .ifCond .ne 9, 3), (178, .sipush 255, 3), (181, .goto 9, 3), (184, .iconst 1, 1), (185, .iload 12, 2), (187, .ishl, 1), (188, .iconst (-1), 1), (189, .ixor, 1), (190, .iand, 1), (191, .istore 11, 2), (193, .iinc 12 1, 3), (196, .goto (-51), 3), (199, .aload_n 0, 1), (200, .iload_n 2, 1), (201, .iconst 1, 1), (202, .lload 9, 2), (204, .iload 8, 2), (206, .invokestatic 377, 3), (209, .land, 1), (210, .iload 11, 2), (212, .aload_n 0, 1), (213, .getfield 79, 3), (216, .iload_n 3, 1), (217, .iaload, 1), (218, .aload_n 0, 1), (219, .getfield 39, 3), (222, .iload_n 3, 1), (223, .iaload, 1), (224, .iconst 1, 1), (225, .isub, 1), (226, .if_icmp .ne 9, 3), (229, .sipush 256, 3), (232, .goto 4, 3), (235, .iconst 0, 1), (236, .ior, 1), (237, .invokevirtual 359, 3), (240, .return_, 1)]
theorem dt_Ref_showData (i : Nat) : decode (jm_cod M_Ref_showData) (tab_Ref_showData.getD i (0, .iconst 5, 1)).1 = .ok ((tab_Ref_showData.getD i (0, .iconst 5, 1)).2.1, (tab_Ref_showData.getD i (0, .iconst 5, 1)).2.2) := j_tab (by decide +kernel) i
theorem d_Ref_showData_0 : decode (jm_cod M_Ref_showData) 0 = .ok (.iconst 5, 1) := dt_Ref_showData 0
theorem d_Ref_showData_1 : decode (jm_cod M_Ref_showData) 1 = .ok (.iload_n 1, 1) := dt_Ref_showData 1
theorem d_Ref_showData_2 : decode (jm_cod M_Ref_showData) 2 = .ok (.imul, 1) := dt_Ref_showData 2
theorem d_Ref_showData_3 : decode (jm_cod M_Ref_showData) 3 = .ok (.iconst 1, 1) := dt_Ref_showData 3
theorem d_Ref_showData_4 : decode (jm_cod M_Ref_showData) 4 = .ok (.iadd, 1) := dt_Ref_showData 4
theorem d_Ref_showData_5 : decode (jm_cod M_Ref_showData) 5 = .ok (.istore_n 2, 1) := dt_Ref_showData 5
theorem d_Ref_showData_6 : decode (jm_cod M_Ref_showData) 6 = .ok (.aload_n 0, 1) := dt_Ref_showData 6
theorem d_Ref_showData_7 : decode (jm_cod M_Ref_showData) 7 = .ok (.iload_n 1, 1) := dt_Ref_showData 7
theorem d_Ref_showData_8 : decode (jm_cod M_Ref_showData) 8 = .ok (.invokevirtual 363, 3) := dt_Ref_showData 8
theorem d_Ref_showData_11 : decode (jm_cod M_Ref_showData) 11 = .ok (.istore_n 3, 1) := dt_Ref_showData 9
theorem d_Ref_showData_12 : decode (jm_cod M_Ref_showData) 12 = .ok (.iload_n 3, 1) := dt_Ref_showData 10
theorem d_Ref_showData_13 : decode (jm_cod M_Ref_showData) 13 = .ok (.iconst (-1), 1) := dt_Ref_showData 11
theorem d_Ref_showData_14 : decode (jm_cod M_Ref_showData) 14 = .ok (.if_icmp .eq 26, 3) := dt_Ref_showData 12
theorem d_Ref_showData_17 : decode (jm_cod M_Ref_showData) 17 = .ok (.aload_n 0, 1) := dt_Ref_showData 13
theorem d_Ref_showData_18 : decode (jm_cod M_Ref_showData) 18 = .ok (.getfield 73, 3) := dt_Ref_showData 14
theorem d_Ref_showData_21 : decode (jm_cod M_Ref_showData) 21 = .ok (.iload_n 3, 1) := dt_Ref_showData 15
theorem d_Ref_showData_22 : decode (jm_cod M_Ref_showData) 22 = .ok (.iaload, 1) := dt_Ref_showData 16
theorem d_Ref_showData_23 : decode (jm_cod M_Ref_showData) 23 = .ok (.iconst (-1), 1) := dt_Ref_showData 17
theorem d_Ref_showData_24 : decode (jm_cod M_Ref_showData) 24 = .ok (.if_icmp .ne 12, 3) := dt_Ref_showData 18
theorem d_Ref_showData_27 : decode (jm_cod M_Ref_showData) 27 = .ok (.aload_n 0, 1) := dt_Ref_showData 19
theorem d_Ref_showData_28 : decode (jm_cod M_Ref_showData) 28 = .ok (.getfield 19, 3) := dt_Ref_showData 20
theorem d_Ref_showData_31 : decode (jm_cod M_Ref_showData) 31 = .ok (.iload_n 1, 1) := dt_Ref_showData 21
theorem d_Ref_showData_32 : decode (jm_cod M_Ref_showData) 32 = .ok (.baload, 1) := dt_Ref_showData 22
theorem d_Ref_showData_33 : decode (jm_cod M_Ref_showData) 33 = .ok (.ifCond .eq 7, 3) := dt_Ref_showData 23
theorem d_Ref_showData_36 : decode (jm_cod M_Ref_showData) 36 = .ok (.iconst 1, 1) := dt_Ref_showData 24
theorem d_Ref_showData_37 : decode (jm_cod M_Ref_showData) 37 = .ok (.goto 4, 3) := dt_Ref_showData 25
theorem d_Ref_showData_40 : decode (jm_cod M_Ref_showData) 40 = .ok (.iconst 0, 1) := dt_Ref_showData 26
theorem d_Ref_showData_41 : decode (jm_cod M_Ref_showData) 41 = .ok (.istore 4, 2) := dt_Ref_showData 27
theorem d_Ref_showData_43 : decode (jm_cod M_Ref_showData) 43 = .ok (.aload_n 0, 1) := dt_Ref_showData 28
theorem d_Ref_showData_44 : decode (jm_cod M_Ref_showData) 44 = .ok (.getfield 100, 3) := dt_Ref_showData 29
theorem d_Ref_showData_47 : decode (jm_cod M_Ref_showData) 47 = .ok (.iload_n 2, 1) := dt_Ref_showData 30
theorem d_Ref_showData_48 : decode (jm_cod M_Ref_showData) 48 = .ok (.baload, 1) := dt_Ref_showData 31
theorem d_Ref_showData_49 : decode (jm_cod M_Ref_showData) 49 = .ok (.ifCond .ne 24, 3) := dt_Ref_showData 32
theorem d_Ref_showData_52 : decode (jm_cod M_Ref_showData) 52 = .ok (.iload 4, 2) := dt_Ref_showData 33
theorem d_Ref_showData_54 : decode (jm_cod M_Ref_showData) 54 = .ok (.ifCond .eq 23, 3) := dt_Ref_showData 34
theorem d_Ref_showData_57 : decode (jm_cod M_Ref_showData) 57 = .ok (.aload_n 0, 1) := dt_Ref_showData 35
theorem d_Ref_showData_58 : decode (jm_cod M_Ref_showData) 58 = .ok (.getfield 13, 3) := dt_Ref_showData 36
theorem d_Ref_showData_61 : decode (jm_cod M_Ref_showData) 61 = .ok (.iload_n 2, 1) := dt_Ref_showData 37
theorem d_Ref_showData_62 : decode (jm_cod M_Ref_showData) 62 = .ok (.iaload, 1) := dt_Ref_showData 38
theorem d_Ref_showData_63 : decode (jm_cod M_Ref_showData) 63 = .ok (.aload_n 0, 1) := dt_Ref_showData 39
theorem d_Ref_showData_64 : decode (jm_cod M_Ref_showData) 64 = .ok (.getfield 348, 3) := dt_Ref_showData 40
theorem d_Ref_showData_67 : decode (jm_cod M_Ref_showData) 67 = .ok (.invokestatic 351, 3) := dt_Ref_showData 41
theorem d_Ref_showData_70 : decode (jm_cod M_Ref_showData) 70 = .ok (.ifCond .eq 7, 3) := dt_Ref_showData 42
theorem d_Ref_showData_73 : decode (jm_cod M_Ref_showData) 73 = .ok (.iconst 1, 1) := dt_Ref_showData 43
theorem d_Ref_showData_74 : decode (jm_cod M_Ref_showData) 74 = .ok (.goto 4, 3) := dt_Ref_showData 44
theorem d_Ref_showData_77 : decode (jm_cod M_Ref_showData) 77 = .ok (.iconst 0, 1) := dt_Ref_showData 45
theorem d_Ref_showData_78 : decode (jm_cod M_Ref_showData) 78 = .ok (.istore 5, 2) := dt_Ref_showData 46
theorem d_Ref_showData_80 : decode (jm_cod M_Ref_showData) 80 = .ok (.iload 5, 2) := dt_Ref_showData 47
theorem d_Ref_showData_82 : decode (jm_cod M_Ref_showData) 82 = .ok (.ifCond .ne 12, 3) := dt_Ref_showData 48
theorem d_Ref_showData_85 : decode (jm_cod M_Ref_showData) 85 = .ok (.aload_n 0, 1) := dt_Ref_showData 49
theorem d_Ref_showData_86 : decode (jm_cod M_Ref_showData) 86 = .ok (.iload_n 2, 1) := dt_Ref_showData 50
theorem d_Ref_showData_87 : decode (jm_cod M_Ref_showData) 87 = .ok (.iconst 0, 1) := dt_Ref_showData 51
theorem d_Ref_showData_88 : decode (jm_cod M_Ref_showData) 88 = .ok (.lconst 0, 1) := dt_Ref_showData 52
theorem d_Ref_showData_89 : decode (jm_cod M_Ref_showData) 89 = .ok (.iconst 0, 1) := dt_Ref_showData 53
theorem d_Ref_showData_90 : decode (jm_cod M_Ref_showData) 90 = .ok (.invokevirtual 359, 3) := dt_Ref_showData 54
theorem d_Ref_showData_93 : decode (jm_cod M_Ref_showData) 93 = .ok (.return_, 1) := dt_Ref_showData 55
theorem d_Ref_showData_94 : decode (jm_cod M_Ref_showData) 94 = .ok (.aload_n 0, 1) := dt_Ref_showData 56
theorem d_Ref_showData_95 : decode (jm_cod M_Ref_showData) 95 = .ok (.iload_n 3, 1) := dt_Ref_showData 57
theorem d_Ref_showData_96 : decode (jm_cod M_Ref_showData) 96 = .ok (.invokevirtual 355, 3) := dt_Ref_showData 58
theorem d_Ref_showData_99 : decode (jm_cod M_Ref_showData) 99 = .ok (.lstore 6, 2) := dt_Ref_showData 59
theorem d_Ref_showData_101 : decode (jm_cod M_Ref_showData) 101 = .ok (.lload 6, 2) := dt_Ref_showData 60
theorem d_Ref_showData_103 : decode (jm_cod M_Ref_showData) 103 = .ok (.aload_n 0, 1) := dt_Ref_showData 61
theorem d_Ref_showData_104 : decode (jm_cod M_Ref_showData) 104 = .ok (.getfield 79, 3) := dt_Ref_showData 62
theorem d_Ref_showData_107 : decode (jm_cod M_Ref_showData) 107 = .ok (.iload_n 3, 1) := dt_Ref_showData 63
theorem d_Ref_showData_108 : decode (jm_cod M_Ref_showData) 108 = .ok (.iaload, 1) := dt_Ref_showData 64
theorem d_Ref_showData_109 : decode (jm_cod M_Ref_showData) 109 = .ok (.invokestatic 366, 3) := dt_Ref_showData 65
theorem d_Ref_showData_112 : decode (jm_cod M_Ref_showData) 112 = .ok (.lload 6, 2) := dt_Ref_showData 66
theorem d_Ref_showData_114 : decode (jm_cod M_Ref_showData) 114 = .ok (.invokestatic 318, 3) := dt_Ref_showData 67
theorem d_Ref_showData_117 : decode (jm_cod M_Ref_showData) 117 = .ok (.invokestatic 370, 3) := dt_Ref_showData 68
theorem d_Ref_showData_120 : decode (jm_cod M_Ref_showData) 120 = .ok (.istore 8, 2) := dt_Ref_showData 69
theorem d_Ref_showData_122 : decode (jm_cod M_Ref_showData) 122 = .ok (.aload_n 0, 1) := dt_Ref_showData 70
theorem d_Ref_showData_123 : decode (jm_cod M_Ref_showData) 123 = .ok (.getfield 66, 3) := dt_Ref_showData 71
theorem d_Ref_showData_126 : decode (jm_cod M_Ref_showData) 126 = .ok (.iload_n 3, 1) := dt_Ref_showData 72
theorem d_Ref_showData_127 : decode (jm_cod M_Ref_showData) 127 = .ok (.laload, 1) := dt_Ref_showData 73
theorem d_Ref_showData_128 : decode (jm_cod M_Ref_showData) 128 = .ok (.ldc2_w 373, 3) := dt_Ref_showData 74
theorem d_Ref_showData_131 : decode (jm_cod M_Ref_showData) 131 = .ok (.lmul, 1) := dt_Ref_showData 75
theorem d_Ref_showData_132 : decode (jm_cod M_Ref_showData) 132 = .ok (.ldc2_w 375, 3) := dt_Ref_showData 76
theorem d_Ref_showData_135 : decode (jm_cod M_Ref_showData) 135 = .ok (.ladd, 1) := dt_Ref_showData 77
theorem d_Ref_showData_136 : decode (jm_cod M_Ref_showData) 136 = .ok (.lstore 9, 2) := dt_Ref_showData 78
theorem d_Ref_showData_138 : decode (jm_cod M_Ref_showData) 138 = .ok (.iload 8, 2) := dt_Ref_showData 79
theorem d_Ref_showData_140 : decode (jm_cod M_Ref_showData) 140 = .ok (.istore 11, 2) := dt_Ref_showData 80
theorem d_Ref_showData_142 : decode (jm_cod M_Ref_showData) 142 = .ok (.iconst 0, 1) := dt_Ref_showData 81
theorem d_Ref_showData_143 : decode (jm_cod M_Ref_showData) 143 = .ok (.istore 12, 2) := dt_Ref_showData 82
theorem d_Ref_showData_145 : decode (jm_cod M_Ref_showData) 145 = .ok (.iload 12, 2) := dt_Ref_showData 83
theorem d_Ref_showData_147 : decode (jm_cod M_Ref_showData) 147 = .ok (.bipush 8, 2) := dt_Ref_showData 84
theorem d_Ref_showData_149 : decode (jm_cod M_Ref_showData) 149 = .ok (.if_icmp .ge 50, 3) := dt_Ref_showData 85
theorem d_Ref_showData_152 : decode (jm_cod M_Ref_showData) 152 = .ok (.aload_n 0, 1) := dt_Ref_showData 86
theorem d_Ref_showData_153 : decode (jm_cod M_Ref_showData) 153 = .ok (.getfield 54, 3) := dt_Ref_showData 87
theorem d_Ref_showData_156 : decode (jm_cod M_Ref_showData) 156 = .ok (.iload_n 3, 1) := dt_Ref_showData 88
theorem d_Ref_showData_157 : decode (jm_cod M_Ref_showData) 157 = .ok (.baload, 1) := dt_Ref_showData 89
theorem d_Ref_showData_158 : decode (jm_cod M_Ref_showData) 158 = .ok (.ifCond .eq 41, 3) := dt_Ref_showData 90
theorem d_Ref_showData_161 : decode (jm_cod M_Ref_showData) 161 = .ok (.iload 11, 2) := dt_Ref_showData 91
theorem d_Ref_showData_163 : decode (jm_cod M_Ref_showData) 163 = .ok (.lload 9, 2) := dt_Ref_showData 92
theorem d_Ref_showData_165 : decode (jm_cod M_Ref_showData) 165 = .ok (.bipush 56, 2) := dt_Ref_showData 93
theorem d_Ref_showData_167 : decode (jm_cod M_Ref_showData) 167 = .ok (.iload 12, 2) := dt_Ref_showData 94
theorem d_Ref_showData_169 : decode (jm_cod M_Ref_showData) 169 = .ok (.iadd, 1) := dt_Ref_showData 95
theorem d_Ref_showData_170 : decode (jm_cod M_Ref_showData) 170 = .ok (.lshr, 1) := dt_Ref_showData 96
theorem d_Ref_showData_171 : decode (jm_cod M_Ref_showData) 171 = .ok (.lconst 1, 1) := dt_Ref_showData 97
theorem d_Ref_showData_172 : decode (jm_cod M_Ref_showData) 172 = .ok (.land, 1) := dt_Ref_showData 98
theorem d_Ref_showData_173 : decode (jm_cod M_Ref_showData) 173 = .ok (.lconst 1, 1) := dt_Ref_showData 99
theorem d_Ref_showData_174 : decode (jm_cod M_Ref_showData) 174 = .ok (.lcmp, 1) := dt_Ref_showData 100
theorem d_Ref_showData_175 : decode (jm_cod M_Ref_showData) 175 = .ok (.ifCond .ne 9, 3) := dt_Ref_showData 101
theorem d_Ref_showData_178 : decode (jm_cod M_Ref_showData) 178 = .ok (.sipush 255, 3) := dt_Ref_showData 102
theorem d_Ref_showData_181 : decode (jm_cod M_Ref_showData) 181 = .ok (.goto 9, 3) := dt_Ref_showData 103
theorem d_Ref_showData_184 : decode (jm_cod M_Ref_showData) 184 = .ok (.iconst 1, 1) := dt_Ref_showData 104
theorem d_Ref_showData_185 : decode (jm_cod M_Ref_showData) 185 = .ok (.iload 12, 2) := dt_Ref_showData 105
theorem d_Ref_showData_187 : decode (jm_cod M_Ref_showData) 187 = .ok (.ishl, 1) := dt_Ref_showData 106
theorem d_Ref_showData_188 : decode (jm_cod M_Ref_showData) 188 = .ok (.iconst (-1), 1) := dt_Ref_showData 107
theorem d_Ref_showData_189 : decode (jm_cod M_Ref_showData) 189 = .ok (.ixor, 1) := dt_Ref_showData 108
theorem d_Ref_showData_190 : decode (jm_cod M_Ref_showData) 190 = .ok (.iand, 1) := dt_Ref_showData 109
theorem d_Ref_showData_191 : decode (jm_cod M_Ref_showData) 191 = .ok (.istore 11, 2) := dt_Ref_showData 110
theorem d_Ref_showData_193 : decode (jm_cod M_Ref_showData) 193 = .ok (.iinc 12 1, 3) := dt_Ref_showData 111
theorem d_Ref_showData_196 : decode (jm_cod M_Ref_showData) 196 = .ok (.goto (-51), 3) := dt_Ref_showData 112
theorem d_Ref_showData_199 : decode (jm_cod M_Ref_showData) 199 = .ok (.aload_n 0, 1) := dt_Ref_showData 113
theorem d_Ref_showData_200 : decode (jm_cod M_Ref_showData) 200 = .ok (.iload_n 2, 1) := dt_Ref_showData 114
theorem d_Ref_showData_201 : decode (jm_cod M_Ref_showData) 201 = .ok (.iconst 1, 1) := dt_Ref_showData 115
theorem d_Ref_showData_202 : decode (jm_cod M_Ref_showData) 202 = .ok (.lload 9, 2) := dt_Ref_showData 116
theorem d_Ref_showData_204 : decode (jm_cod M_Ref_showData) 204 = .ok (.iload 8, 2) := dt_Ref_showData 117
theorem d_Ref_showData_206 : decode (jm_cod M_Ref_showData) 206 = .ok (.invokestatic 377, 3) := dt_Ref_showData 118
theorem d_Ref_showData_209 : decode (jm_cod M_Ref_showData) 209 = .ok (.land, 1) := dt_Ref_showData 119
theorem d_Ref_showData_210 : decode (jm_cod M_Ref_showData) 210 = .ok (.iload 11, 2) := dt_Ref_showData 120
theorem d_Ref_showData_212 : decode (jm_cod M_Ref_showData) 212 = .ok (.aload_n 0, 1) := dt_Ref_showData 121
theorem d_Ref_showData_213 : decode (jm_cod M_Ref_showData) 213 = .ok (.getfield 79, 3) := dt_Ref_showData 122
theorem d_Ref_showData_216 : decode (jm_cod M_Ref_showData) 216 = .ok (.iload_n 3, 1) := dt_Ref_showData 123
theorem d_Ref_showData_217 : decode (jm_cod M_Ref_showData) 217 = .ok (.iaload, 1) := dt_Ref_showData 124
theorem d_Ref_showData_218 : decode (jm_cod M_Ref_showData) 218 = .ok (.aload_n 0, 1) := dt_Ref_showData 125
theorem d_Ref_showData_219 : decode (jm_cod M_Ref_showData) 219 = .ok (.getfield 39, 3) := dt_Ref_showData 126
theorem d_Ref_showData_222 : decode (jm_cod M_Ref_showData) 222 = .ok (.iload_n 3, 1) := dt_Ref_showData 127
theorem d_Ref_showData_223 : decode (jm_cod M_Ref_showData) 223 = .ok (.iaload, 1) := dt_Ref_showData 128
theorem d_Ref_showData_224 : decode (jm_cod M_Ref_showData) 224 = .ok (.iconst 1, 1) := dt_Ref_showData 129
theorem d_Ref_showData_225 : decode (jm_cod M_Ref_showData) 225 = .ok (.isub, 1) := dt_Ref_showData 130
theorem d_Ref_showData_226 : decode (jm_cod M_Ref_showData) 226 = .ok (.if_icmp .ne 9, 3) := dt_Ref_showData 131
theorem d_Ref_showData_229 : decode (jm_cod M_Ref_showData) 229 = .ok (.sipush 256, 3) := dt_Ref_showData 132
theorem d_Ref_showData_232 : decode (jm_cod M_Ref_showData) 232 = .ok (.goto 4, 3) := dt_Ref_showData 133
theorem d_Ref_showData_235 : decode (jm_cod M_Ref_showData) 235 = .ok (.iconst 0, 1) := dt_Ref_showData 134
theorem d_Ref_showData_236 : decode (jm_cod M_Ref_showData) 236 = .ok (.ior, 1) := dt_Ref_showData 135
theorem d_Ref_showData_237 : decode (jm_cod M_Ref_showData) 237 = .ok (.invokevirtual 359, 3) := dt_Ref_showData 136
theorem d_Ref_showData_240 : decode (jm_cod M_Ref_showData) 240 = .ok (.return_, 1) := dt_Ref_showData 137
def tab_Ref_unfinished : List (Nat × Instr × Nat) := [(0, .iconst 0, 1), (1, .istore_n 2, 1), (2, .iload_n 2, 1), (3, .aload_n 0, 1), (4, .getfield 337, 3), (7, .if_icmp .ge 45, 3), (10, .aload_n 0, 1), (11, .getfield 36, 3), (14, .iload_n 2, 1), (15, .iaload, 1), (16, .iload_n 1, 1), (17, .if_icmp .ne 29, 3), (20, .aload_n 0, 1), (21, .getfield 48, 3), (24, .iload_n 2, 1), (25, .baload, 1), (26, .ifCond .eq 20, 3), (29, .aload_n 0, 1), (30, .getfield 79, 3), (33, .iload_n 2, 1), (34, .iaload, 1), (35, .aload_n 0, 1), (36, .getfield 39, 3), (39, .iload_n 2, 1), (40, .iaload, 1), (41, .if_icmp .ge 5, 3), (44, .iload_n 2, 1), (45, .ireturn, 1), (46, .iinc 2 1, 3), (49, .goto (-47), 3), (52, .iconst (-1), 1), (53, .ireturn, 1)]
theorem dt_Ref_unfinished (i : Nat) : decode (jm_cod M_Ref_unfinished) (tab_Ref_unfinished.getD i (0, .iconst 0, 1)).1 = .ok ((tab_Ref_unfinished.getD i (0, .iconst 0, 1)).2.1, (tab_Ref_unfinished.getD i (0, .iconst 0, 1)).2.2) := j_tab (by decide +kernel) i
theorem d_Ref_unfinished_0 : decode (jm_cod M_Ref_unfinished) 0 = .ok (.iconst 0, 1) := dt_Ref_unfinished 0
theorem d_Ref_unfinished_1 : decode (jm_cod M_Ref_unfinished) 1 = .ok (.istore_n 2, 1) := dt_Ref_unfinished 1
theorem d_Ref_unfinished_2 : decode (jm_cod M_Ref_unfinished) 2 = .ok (.iload_n 2, 1) := dt_Ref_unfinished 2
theorem d_Ref_unfinished_3 : decode (jm_cod M_Ref_unfinished) 3 = .ok (.aload_n 0, 1) := dt_Ref_unfinished 3
theorem d_Ref_unfinished_4 : decode (jm_cod M_Ref_unfinished) 4 = .ok (.getfield 337, 3) := dt_Ref_unfinished 4
theorem d_Ref_unfinished_7 : decode (jm_cod M_Ref_unfinished) 7 = .ok (.if_icmp .ge 45, 3) := dt_Ref_unfinished 5
theorem d_Ref_unfinished_10 : decode (jm_cod M_Ref_unfinished) 10 = .ok (.aload_n 0, 1) := dt_Ref_unfinished 6
theorem d_Ref_unfinished_11 : decode (jm_cod M_Ref_unfinished) 11 = .ok (.getfield 36, 3) := dt_Ref_unfinished 7
theorem d_Ref_unfinished_14 : decode (jm_cod M_Ref_unfinished) 14 = .ok (.iload_n 2, 1) := dt_Ref_unfinished 8
theorem d_Ref_unfinished_15 : decode (jm_cod M_Ref_unfinished) 15 = .ok (.iaload, 1) := dt_Ref_unfinished 9
theorem d_Ref_unfinished_16 : decode (jm_cod M_Ref_unfinished) 16 = .ok (.iload_n 1, 1) := dt_Ref_unfinished 10
theorem d_Ref_unfinished_17 : decode (jm_cod M_Ref_unfinished) 17 = .ok (.if_icmp .ne 29, 3) := dt_Ref_unfinished 11
theorem d_Ref_unfinished_20 : decode (jm_cod M_Ref_unfinished) 20 = .ok (.aload_n 0, 1) := dt_Ref_unfinished 12
theorem d_Ref_unfinished_21 : decode (jm_cod M_Ref_unfinished) 21 = .ok (.getfield 48, 3) := dt_Ref_unfinished 13
theorem d_Ref_unfinished_24 : decode (jm_cod M_Ref_unfinished) 24 = .ok (.iload_n 2, 1) := dt_Ref_unfinished 14
theorem d_Ref_unfinished_25 : decode (jm_cod M_Ref_unfinished) 25 = .ok (.baload, 1) := dt_Ref_unfinished 15
theorem d_Ref_unfinished_26 : decode (jm_cod M_Ref_unfinished) 26 = .ok (.ifCond .eq 20, 3) := dt_Ref_unfinished 16
theorem d_Ref_unfinished_29 : decode (jm_cod M_Ref_unfinished) 29 = .ok (.aload_n 0, 1) := dt_Ref_unfinished 17
theorem d_Ref_unfinished_30 : decode (jm_cod M_Ref_unfinished) 30 = .ok (.getfield 79, 3) := dt_Ref_unfinished 18
theorem d_Ref_unfinished_33 : decode (jm_cod M_Ref_unfinished) 33 = .ok (.iload_n 2, 1) := dt_Ref_unfinished 19
theorem d_Ref_unfinished_34 : decode (jm_cod M_Ref_unfinished) 34 = .ok (.iaload, 1) := dt_Ref_unfinished 20
theorem d_Ref_unfinished_35 : decode (jm_cod M_Ref_unfinished) 35 = .ok (.aload_n 0, 1) := dt_Ref_unfinished 21
theorem d_Ref_unfinished_36 : decode (jm_cod M_Ref_unfinished) 36 = .ok (.getfield 39, 3) := dt_Ref_unfinished 22
theorem d_Ref_unfinished_39 : decode (jm_cod M_Ref_unfinished) 39 = .ok (.iload_n 2, 1) := dt_Ref_unfinished 23
theorem d_Ref_unfinished_40 : decode (jm_cod M_Ref_unfinished) 40 = .ok (.iaload, 1) := dt_Ref_unfinished 24
theorem d_Ref_unfinished_41 : decode (jm_cod M_Ref_unfinished) 41 = .ok (.if_icmp .ge 5, 3) := dt_Ref_unfinished 25
theorem d_Ref_unfinished_44 : decode (jm_cod M_Ref_unfinished) 44 = .ok (.iload_n 2, 1) := dt_Ref_unfinished 26
theorem d_Ref_unfinished_45 : decode (jm_cod M_Ref_unfinished) 45 = .ok (.ireturn, 1) := dt_Ref_unfinished 27
theorem d_Ref_unfinished_46 : decode (jm_cod M_Ref_unfinished) 46 = .ok (.iinc 2 1, 3) := dt_Ref_unfinished 28
theorem d_Ref_unfinished_49 : decode (jm_cod M_Ref_unfinished) 49 = .ok (.goto (-47), 3) := dt_Ref_unfinished 29
theorem d_Ref_unfinished_52 : decode (jm_cod M_Ref_unfinished) 52 = .ok (.iconst (-1), 1) := dt_Ref_unfinished 30
theorem d_Ref_unfinished_53 : decode (jm_cod M_Ref_unfinished) 53 = .ok (.ireturn, 1) := dt_Ref_unfinished 31
def tab_Ref_beatAt : List (Nat × Instr × Nat) := [(0, .lload_n 0, 1), (1, .invokestatic 314, 3), (4, .istore_n 3, 1), (5, .lload_n 0, 1), (6, .invokestatic 318, 3), (9, .istore 4, 2), (11, .lload_n 0, 1), (12, .invokestatic 321, 3), (15, .iload 4, 2), (17, .imul, 1), (18, .istore 5, 2), (20, .lload_n 0, 1), (21, .invokestatic 324, 3), (24, .istore 6, 2), (26, .iload_n 3, 1), (27, .iload_n 3, 1), (28, .iload 5, 2), (30, .irem, 1), (31, .isub, 1), (32, .istore 7, 2), (34, .iload 6, 2), (36, .ifCond .eq 13, 3), (39, .iload 6, 2), (41, .iconst 1, 1), (42, .if_icmp .ne 11, 3), (45, .iload_n 2, 1), (46, .ifCond .ne 7, 3), (49, .iload_n 3, 1), (50, .goto 38, 3), (53, .iload 6, 2), (55, .iconst 1, 1), (56, .if_icmp .ne 17, 3), (59, .iload_n 3, 1), (60, .iload_n 3, 1), (61, .iload 4, 2), (63, .irem, 1), (64, .isub, 1), (65, .iload_n 2, 1), (66, .iload 4, 2), (68, .imul, 1), (69, .iadd, 1), (70, .goto 18, 3), (73, .iload 7, 2), (75, .iload_n 3, 1), (76, .iload 7, 2), (78, .isub, 1), (79, .iload_n 2, 1), (80, .iload 4, 2), (82, .imul, 1), (83, .iadd, 1), (84, .iload 5, 2), (86, .irem, 1), (87, .iadd, 1), (88, .ireturn, 1)]
theorem dt_Ref_beatAt (i : Nat) : decode (jm_cod M_Ref_beatAt) (tab_Ref_beatAt.getD i (0, .lload_n 0, 1)).1 = .ok ((tab_Ref_beatAt.getD i (0, .lload_n 0, 1)).2.1, (tab_Ref_beatAt.getD i (0, .lload_n 0, 1)).2.2) := j_tab (by decide +kernel) i
theorem d_Ref_beatAt_0 : decode (jm_cod M_Ref_beatAt) 0 = .ok (.lload_n 0, 1) := dt_Ref_beatAt 0
theorem d_Ref_beatAt_1 : decode (jm_cod M_Ref_beatAt) 1 = .ok (.invokestatic 314, 3) := dt_Ref_beatAt 1
theorem d_Ref_beatAt_4 : decode (jm_cod M_Ref_beatAt) 4 = .ok (.istore_n 3, 1) := dt_Ref_beatAt 2
theorem d_Ref_beatAt_5 : decode (jm_cod M_Ref_beatAt) 5 = .ok (.lload_n 0, 1) := dt_Ref_beatAt 3
theorem d_Ref_beatAt_6 : decode (jm_cod M_Ref_beatAt) 6 = .ok (.invokestatic 318, 3) := dt_Ref_beatAt 4
theorem d_Ref_beatAt_9 : decode (jm_cod M_Ref_beatAt) 9 = .ok (.istore 4, 2) := dt_Ref_beatAt 5
theorem d_Ref_beatAt_11 : decode (jm_cod M_Ref_beatAt) 11 = .ok (.lload_n 0, 1) := dt_Ref_beatAt 6
theorem d_Ref_beatAt_12 : decode (jm_cod M_Ref_beatAt) 12 = .ok (.invokestatic 321, 3) := dt_Ref_beatAt 7
theorem d_Ref_beatAt_15 : decode (jm_cod M_Ref_beatAt) 15 = .ok (.iload 4, 2) := dt_Ref_beatAt 8
theorem d_Ref_beatAt_17 : decode (jm_cod M_Ref_beatAt) 17 = .ok (.imul, 1) := dt_Ref_beatAt 9
theorem d_Ref_beatAt_18 : decode (jm_cod M_Ref_beatAt) 18 = .ok (.istore 5, 2) := dt_Ref_beatAt 10
theorem d_Ref_beatAt_20 : decode (jm_cod M_Ref_beatAt) 20 = .ok (.lload_n 0, 1) := dt_Ref_beatAt 11
theorem d_Ref_beatAt_21 : decode (jm_cod M_Ref_beatAt) 21 = .ok (.invokestatic 324, 3) := dt_Ref_beatAt 12
theorem d_Ref_beatAt_24 : decode (jm_cod M_Ref_beatAt) 24 = .ok (.istore 6, 2) := dt_Ref_beatAt 13
theorem d_Ref_beatAt_26 : decode (jm_cod M_Ref_beatAt) 26 = .ok (.iload_n 3, 1) := dt_Ref_beatAt 14
theorem d_Ref_beatAt_27 : decode (jm_cod M_Ref_beatAt) 27 = .ok (.iload_n 3, 1) := dt_Ref_beatAt 15
theorem d_Ref_beatAt_28 : decode (jm_cod M_Ref_beatAt) 28 = .ok (.iload 5, 2) := dt_Ref_beatAt 16
theorem d_Ref_beatAt_30 : decode (jm_cod M_Ref_beatAt) 30 = .ok (.irem, 1) := dt_Ref_beatAt 17
theorem d_Ref_beatAt_31 : decode (jm_cod M_Ref_beatAt) 31 = .ok (.isub, 1) := dt_Ref_beatAt 18
theorem d_Ref_beatAt_32 : decode (jm_cod M_Ref_beatAt) 32 = .ok (.istore 7, 2) := dt_Ref_beatAt 19
theorem d_Ref_beatAt_34 : decode (jm_cod M_Ref_beatAt) 34 = .ok (.iload 6, 2) := dt_Ref_beatAt 20
theorem d_Ref_beatAt_36 : decode (jm_cod M_Ref_beatAt) 36 = .ok (.ifCond .eq 13, 3) := dt_Ref_beatAt 21
theorem d_Ref_beatAt_39 : decode (jm_cod M_Ref_beatAt) 39 = .ok (.iload 6, 2) := dt_Ref_beatAt 22
theorem d_Ref_beatAt_41 : decode (jm_cod M_Ref_beatAt) 41 = .ok (.iconst 1, 1) := dt_Ref_beatAt 23
theorem d_Ref_beatAt_42 : decode (jm_cod M_Ref_beatAt) 42 = .ok (.if_icmp .ne 11, 3) := dt_Ref_beatAt 24
theorem d_Ref_beatAt_45 : decode (jm_cod M_Ref_beatAt) 45 = .ok (.iload_n 2, 1) := dt_Ref_beatAt 25
theorem d_Ref_beatAt_46 : decode (jm_cod M_Ref_beatAt) 46 = .ok (.ifCond .ne 7, 3) := dt_Ref_beatAt 26
theorem d_Ref_beatAt_49 : decode (jm_cod M_Ref_beatAt) 49 = .ok (.iload_n 3, 1) := dt_Ref_beatAt 27
theorem d_Ref_beatAt_50 : decode (jm_cod M_Ref_beatAt) 50 = .ok (.goto 38, 3) := dt_Ref_beatAt 28
theorem d_Ref_beatAt_53 : decode (jm_cod M_Ref_beatAt) 53 = .ok (.iload 6, 2) := dt_Ref_beatAt 29
theorem d_Ref_beatAt_55 : decode (jm_cod M_Ref_beatAt) 55 = .ok (.iconst 1, 1) := dt_Ref_beatAt 30
theorem d_Ref_beatAt_56 : decode (jm_cod M_Ref_beatAt) 56 = .ok (.if_icmp .ne 17, 3) := dt_Ref_beatAt 31
theorem d_Ref_beatAt_59 : decode (jm_cod M_Ref_beatAt) 59 = .ok (.iload_n 3, 1) := dt_Ref_beatAt 32
theorem d_Ref_beatAt_60 : decode (jm_cod M_Ref_beatAt) 60 = .ok (.iload_n 3, 1) := dt_Ref_beatAt 33
theorem d_Ref_beatAt_61 : decode (jm_cod M_Ref_beatAt) 61 = .ok (.iload 4, 2) := dt_Ref_beatAt 34
theorem d_Ref_beatAt_63 : decode (jm_cod M_Ref_beatAt) 63 = .ok (.irem, 1) := dt_Ref_beatAt 35
theorem d_Ref_beatAt_64 : decode (jm_cod M_Ref_beatAt) 64 = .ok (.isub, 1) := dt_Ref_beatAt 36
theorem d_Ref_beatAt_65 : decode (jm_cod M_Ref_beatAt) 65 = .ok (.iload_n 2, 1) := dt_Ref_beatAt 37
theorem d_Ref_beatAt_66 : decode (jm_cod M_Ref_beatAt) 66 = .ok (.iload 4, 2) := dt_Ref_beatAt 38
theorem d_Ref_beatAt_68 : decode (jm_cod M_Ref_beatAt) 68 = .ok (.imul, 1) := dt_Ref_beatAt 39
theorem d_Ref_beatAt_69 : decode (jm_cod M_Ref_beatAt) 69 = .ok (.iadd, 1) := dt_Ref_beatAt 40
theorem d_Ref_beatAt_70 : decode (jm_cod M_Ref_beatAt) 70 = .ok (.goto 18, 3) := dt_Ref_beatAt 41
theorem d_Ref_beatAt_73 : decode (jm_cod M_Ref_beatAt) 73 = .ok (.iload 7, 2) := dt_Ref_beatAt 42
theorem d_Ref_beatAt_75 : decode (jm_cod M_Ref_beatAt) 75 = .ok (.iload_n 3, 1) := dt_Ref_beatAt 43
theorem d_Ref_beatAt_76 : decode (jm_cod M_Ref_beatAt) 76 = .ok (.iload 7, 2) := dt_Ref_beatAt 44
theorem d_Ref_beatAt_78 : decode (jm_cod M_Ref_beatAt) 78 = .ok (.isub, 1) := dt_Ref_beatAt 45
theorem d_Ref_beatAt_79 : decode (jm_cod M_Ref_beatAt) 79 = .ok (.iload_n 2, 1) := dt_Ref_beatAt 46
theorem d_Ref_beatAt_80 : decode (jm_cod M_Ref_beatAt) 80 = .ok (.iload 4, 2) := dt_Ref_beatAt 47
theorem d_Ref_beatAt_82 : decode (jm_cod M_Ref_beatAt) 82 = .ok (.imul, 1) := dt_Ref_beatAt 48
theorem d_Ref_beatAt_83 : decode (jm_cod M_Ref_beatAt) 83 = .ok (.iadd, 1) := dt_Ref_beatAt 49
theorem d_Ref_beatAt_84 : decode (jm_cod M_Ref_beatAt) 84 = .ok (.iload 5, 2) := dt_Ref_beatAt 50
theorem d_Ref_beatAt_86 : decode (jm_cod M_Ref_beatAt) 86 = .ok (.irem, 1) := dt_Ref_beatAt 51
theorem d_Ref_beatAt_87 : decode (jm_cod M_Ref_beatAt) 87 = .ok (.iadd, 1) := dt_Ref_beatAt 52
theorem d_Ref_beatAt_88 : decode (jm_cod M_Ref_beatAt) 88 = .ok (.ireturn, 1) := dt_Ref_beatAt 53
def tab_Ref_lanesOf : List (Nat × Instr × Nat) := [(0, .iconst 0, 1), (1, .istore_n 2, 1), (2, .iload_n 0, 1), (3, .istore_n 3, 1), (4, .iload_n 3, 1), (5, .iload_n 0, 1), (6, .iload_n 0, 1), (7, .iload_n 1, 1), (8, .irem, 1), (9, .isub, 1), (10, .iload_n 1, 1), (11, .iadd, 1), (12, .if_icmp .ge 18, 3), (15, .iload_n 2, 1), (16, .iconst 1, 1), (17, .iload_n 3, 1), (18, .bipush 8, 2), (20, .irem, 1), (21, .ishl, 1), (22, .ior, 1), (23, .istore_n 2, 1), (24, .iinc 3 1, 3), (27, .goto (-23), 3), (30, .iload_n 2, 1), (31, .ireturn, 1)]
theorem dt_Ref_lanesOf (i : Nat) : decode (jm_cod M_Ref_lanesOf) (tab_Ref_lanesOf.getD i (0, .iconst 0, 1)).1 = .ok ((tab_Ref_lanesOf.getD i (0, .iconst 0, 1)).2.1, (tab_Ref_lanesOf.getD i (0, .iconst 0, 1)).2.2) := j_tab (by decide +kernel) i
theorem d_Ref_lanesOf_0 : decode (jm_cod M_Ref_lanesOf) 0 = .ok (.iconst 0, 1) := dt_Ref_lanesOf 0
theorem d_Ref_lanesOf_1 : decode (jm_cod M_Ref_lanesOf) 1 = .ok (.istore_n 2, 1) := dt_Ref_lanesOf 1
theorem d_Ref_lanesOf_2 : decode (jm_cod M_Ref_lanesOf) 2 = .ok (.iload_n 0, 1) := dt_Ref_lanesOf 2
theorem d_Ref_lanesOf_3 : decode (jm_cod M_Ref_lanesOf) 3 = .ok (.istore_n 3, 1) := dt_Ref_lanesOf 3
theorem d_Ref_lanesOf_4 : decode (jm_cod M_Ref_lanesOf) 4 = .ok (.iload_n 3, 1) := dt_Ref_lanesOf 4
theorem d_Ref_lanesOf_5 : decode (jm_cod M_Ref_lanesOf) 5 = .ok (.iload_n 0, 1) := dt_Ref_lanesOf 5
theorem d_Ref_lanesOf_6 : decode (jm_cod M_Ref_lanesOf) 6 = .ok (.iload_n 0, 1) := dt_Ref_lanesOf 6
theorem d_Ref_lanesOf_7 : decode (jm_cod M_Ref_lanesOf) 7 = .ok (.iload_n 1, 1) := dt_Ref_lanesOf 7
theorem d_Ref_lanesOf_8 : decode (jm_cod M_Ref_lanesOf) 8 = .ok (.irem, 1) := dt_Ref_lanesOf 8
theorem d_Ref_lanesOf_9 : decode (jm_cod M_Ref_lanesOf) 9 = .ok (.isub, 1) := dt_Ref_lanesOf 9
theorem d_Ref_lanesOf_10 : decode (jm_cod M_Ref_lanesOf) 10 = .ok (.iload_n 1, 1) := dt_Ref_lanesOf 10
theorem d_Ref_lanesOf_11 : decode (jm_cod M_Ref_lanesOf) 11 = .ok (.iadd, 1) := dt_Ref_lanesOf 11
theorem d_Ref_lanesOf_12 : decode (jm_cod M_Ref_lanesOf) 12 = .ok (.if_icmp .ge 18, 3) := dt_Ref_lanesOf 12
theorem d_Ref_lanesOf_15 : decode (jm_cod M_Ref_lanesOf) 15 = .ok (.iload_n 2, 1) := dt_Ref_lanesOf 13
theorem d_Ref_lanesOf_16 : decode (jm_cod M_Ref_lanesOf) 16 = .ok (.iconst 1, 1) := dt_Ref_lanesOf 14
theorem d_Ref_lanesOf_17 : decode (jm_cod M_Ref_lanesOf) 17 = .ok (.iload_n 3, 1) := dt_Ref_lanesOf 15
theorem d_Ref_lanesOf_18 : decode (jm_cod M_Ref_lanesOf) 18 = .ok (.bipush 8, 2) := dt_Ref_lanesOf 16
theorem d_Ref_lanesOf_20 : decode (jm_cod M_Ref_lanesOf) 20 = .ok (.irem, 1) := dt_Ref_lanesOf 17
theorem d_Ref_lanesOf_21 : decode (jm_cod M_Ref_lanesOf) 21 = .ok (.ishl, 1) := dt_Ref_lanesOf 18
theorem d_Ref_lanesOf_22 : decode (jm_cod M_Ref_lanesOf) 22 = .ok (.ior, 1) := dt_Ref_lanesOf 19
theorem d_Ref_lanesOf_23 : decode (jm_cod M_Ref_lanesOf) 23 = .ok (.istore_n 2, 1) := dt_Ref_lanesOf 20
theorem d_Ref_lanesOf_24 : decode (jm_cod M_Ref_lanesOf) 24 = .ok (.iinc 3 1, 3) := dt_Ref_lanesOf 21
theorem d_Ref_lanesOf_27 : decode (jm_cod M_Ref_lanesOf) 27 = .ok (.goto (-23), 3) := dt_Ref_lanesOf 22
theorem d_Ref_lanesOf_30 : decode (jm_cod M_Ref_lanesOf) 30 = .ok (.iload_n 2, 1) := dt_Ref_lanesOf 23
theorem d_Ref_lanesOf_31 : decode (jm_cod M_Ref_lanesOf) 31 = .ok (.ireturn, 1) := dt_Ref_lanesOf 24
def tab_Ref_maskOf : List (Nat × Instr × Nat) := [(0, .lconst 0, 1), (1, .lstore_n 1, 1), (2, .iconst 0, 1), (3, .istore_n 3, 1), (4, .iload_n 3, 1), (5, .bipush 8, 2), (7, .if_icmp .ge 33, 3), (10, .lload_n 1, 1), (11, .iload_n 0, 1), (12, .iload_n 3, 1), (13, .ishr, 1), (14, .iconst 1, 1), (15, .iand, 1), (16, .iconst 1, 1), (17, .if_icmp .ne 14, 3), (20, .ldc2_w 327, 3), (23, .bipush 8, 2), (25, .iload_n 3, 1), (26, .imul, 1), (27, .lshl, 1), (28, .goto 4, 3), (31, .lconst 0, 1), (32, .lor, 1), (33, .lstore_n 1, 1), (34, .iinc 3 1, 3), (37, .goto (-33), 3), (40, .lload_n 1, 1), (41, .lreturn, 1)]
theorem dt_Ref_maskOf (i : Nat) : decode (jm_cod M_Ref_maskOf) (tab_Ref_maskOf.getD i (0, .lconst 0, 1)).1 = .ok ((tab_Ref_maskOf.getD i (0, .lconst 0, 1)).2.1, (tab_Ref_maskOf.getD i (0, .lconst 0, 1)).2.2) := j_tab (by decide +kernel) i
theorem d_Ref_maskOf_0 : decode (jm_cod M_Ref_maskOf) 0 = .ok (.lconst 0, 1) := dt_Ref_maskOf 0
theorem d_Ref_maskOf_1 : decode (jm_cod M_Ref_maskOf) 1 = .ok (.lstore_n 1, 1) := dt_Ref_maskOf 1
theorem d_Ref_maskOf_2 : decode (jm_cod M_Ref_maskOf) 2 = .ok (.iconst 0, 1) := dt_Ref_maskOf 2
theorem d_Ref_maskOf_3 : decode (jm_cod M_Ref_maskOf) 3 = .ok (.istore_n 3, 1) := dt_Ref_maskOf 3
theorem d_Ref_maskOf_4 : decode (jm_cod M_Ref_maskOf) 4 = .ok (.iload_n 3, 1) := dt_Ref_maskOf 4
theorem d_Ref_maskOf_5 : decode (jm_cod M_Ref_maskOf) 5 = .ok (.bipush 8, 2) := dt_Ref_maskOf 5
theorem d_Ref_maskOf_7 : decode (jm_cod M_Ref_maskOf) 7 = .ok (.if_icmp .ge 33, 3) := dt_Ref_maskOf 6
theorem d_Ref_maskOf_10 : decode (jm_cod M_Ref_maskOf) 10 = .ok (.lload_n 1, 1) := dt_Ref_maskOf 7
theorem d_Ref_maskOf_11 : decode (jm_cod M_Ref_maskOf) 11 = .ok (.iload_n 0, 1) := dt_Ref_maskOf 8
theorem d_Ref_maskOf_12 : decode (jm_cod M_Ref_maskOf) 12 = .ok (.iload_n 3, 1) := dt_Ref_maskOf 9
theorem d_Ref_maskOf_13 : decode (jm_cod M_Ref_maskOf) 13 = .ok (.ishr, 1) := dt_Ref_maskOf 10
theorem d_Ref_maskOf_14 : decode (jm_cod M_Ref_maskOf) 14 = .ok (.iconst 1, 1) := dt_Ref_maskOf 11
theorem d_Ref_maskOf_15 : decode (jm_cod M_Ref_maskOf) 15 = .ok (.iand, 1) := dt_Ref_maskOf 12
theorem d_Ref_maskOf_16 : decode (jm_cod M_Ref_maskOf) 16 = .ok (.iconst 1, 1) := dt_Ref_maskOf 13
theorem d_Ref_maskOf_17 : decode (jm_cod M_Ref_maskOf) 17 = .ok (.if_icmp .ne 14, 3) := dt_Ref_maskOf 14
theorem d_Ref_maskOf_20 : decode (jm_cod M_Ref_maskOf) 20 = .ok (.ldc2_w 327, 3) := dt_Ref_maskOf 15
theorem d_Ref_maskOf_23 : decode (jm_cod M_Ref_maskOf) 23 = .ok (.bipush 8, 2) := dt_Ref_maskOf 16
theorem d_Ref_maskOf_25 : decode (jm_cod M_Ref_maskOf) 25 = .ok (.iload_n 3, 1) := dt_Ref_maskOf 17
theorem d_Ref_maskOf_26 : decode (jm_cod M_Ref_maskOf) 26 = .ok (.imul, 1) := dt_Ref_maskOf 18
theorem d_Ref_maskOf_27 : decode (jm_cod M_Ref_maskOf) 27 = .ok (.lshl, 1) := dt_Ref_maskOf 19
theorem d_Ref_maskOf_28 : decode (jm_cod M_Ref_maskOf) 28 = .ok (.goto 4, 3) := dt_Ref_maskOf 20
theorem d_Ref_maskOf_31 : decode (jm_cod M_Ref_maskOf) 31 = .ok (.lconst 0, 1) := dt_Ref_maskOf 21
theorem d_Ref_maskOf_32 : decode (jm_cod M_Ref_maskOf) 32 = .ok (.lor, 1) := dt_Ref_maskOf 22
theorem d_Ref_maskOf_33 : decode (jm_cod M_Ref_maskOf) 33 = .ok (.lstore_n 1, 1) := dt_Ref_maskOf 23
theorem d_Ref_maskOf_34 : decode (jm_cod M_Ref_maskOf) 34 = .ok (.iinc 3 1, 3) := dt_Ref_maskOf 24
theorem d_Ref_maskOf_37 : decode (jm_cod M_Ref_maskOf) 37 = .ok (.goto (-33), 3) := dt_Ref_maskOf 25
theorem d_Ref_maskOf_40 : decode (jm_cod M_Ref_maskOf) 40 = .ok (.lload_n 1, 1) := dt_Ref_maskOf 26
theorem d_Ref_maskOf_41 : decode (jm_cod M_Ref_maskOf) 41 = .ok (.lreturn, 1) := dt_Ref_maskOf 27
def tab_Ref_rowOf : List (Nat × Instr × Nat) := [(0, .iconst 5, 1), (1, .iload_n 1, 1), (2, .ifCond .eq 9, 3), (5, .iconst 4, 1), (6, .iload_n 2, 1), (7, .iadd, 1), (8, .goto 4, 3), (11, .iload_n 2, 1), (12, .imul, 1), (13, .iload_n 3, 1), (14, .iadd, 1), (15, .ireturn, 1)]
theorem dt_Ref_rowOf (i : Nat) : decode (jm_cod M_Ref_rowOf) (tab_Ref_rowOf.getD i (0, .iconst 5, 1)).1 = .ok ((tab_Ref_rowOf.getD i (0, .iconst 5, 1)).2.1, (tab_Ref_rowOf.getD i (0, .iconst 5, 1)).2.2) := j_tab (by decide +kernel) i
theorem d_Ref_rowOf_0 : decode (jm_cod M_Ref_rowOf) 0 = .ok (.iconst 5, 1) := dt_Ref_rowOf 0
theorem d_Ref_rowOf_1 : decode (jm_cod M_Ref_rowOf) 1 = .ok (.iload_n 1, 1) := dt_Ref_rowOf 1
theorem d_Ref_rowOf_2 : decode (jm_cod M_Ref_rowOf) 2 = .ok (.ifCond .eq 9, 3) := dt_Ref_rowOf 2
theorem d_Ref_rowOf_5 : decode (jm_cod M_Ref_rowOf) 5 = .ok (.iconst 4, 1) := dt_Ref_rowOf 3
theorem d_Ref_rowOf_6 : decode (jm_cod M_Ref_rowOf) 6 = .ok (.iload_n 2, 1) := dt_Ref_rowOf 4
theorem d_Ref_rowOf_7 : decode (jm_cod M_Ref_rowOf) 7 = .ok (.iadd, 1) := dt_Ref_rowOf 5
theorem d_Ref_rowOf_8 : decode (jm_cod M_Ref_rowOf) 8 = .ok (.goto 4, 3) := dt_Ref_rowOf 6
theorem d_Ref_rowOf_11 : decode (jm_cod M_Ref_rowOf) 11 = .ok (.iload_n 2, 1) := dt_Ref_rowOf 7
theorem d_Ref_rowOf_12 : decode (jm_cod M_Ref_rowOf) 12 = .ok (.imul, 1) := dt_Ref_rowOf 8
theorem d_Ref_rowOf_13 : decode (jm_cod M_Ref_rowOf) 13 = .ok (.iload_n 3, 1) := dt_Ref_rowOf 9
theorem d_Ref_rowOf_14 : decode (jm_cod M_Ref_rowOf) 14 = .ok (.iadd, 1) := dt_Ref_rowOf 10
theorem d_Ref_rowOf_15 : decode (jm_cod M_Ref_rowOf) 15 = .ok (.ireturn, 1) := dt_Ref_rowOf 11
def tab_Ref_hasRoom : List (Nat × Instr × Nat) := [(0, .aload_n 0, 1), (1, .getfield 115, 3), (4, .iload_n 1, 1), (5, .iaload, 1), (6, .iload_n 1, 1), (7, .invokestatic 333, 3), (10, .if_icmp .ge 7, 3), (13, .iconst 1, 1), (14, .goto 4, 3), (17, .iconst 0, 1), (18, .ireturn, 1)]
theorem dt_Ref_hasRoom (i : Nat) : decode (jm_cod M_Ref_hasRoom) (tab_Ref_hasRoom.getD i (0, .aload_n 0, 1)).1 = .ok ((tab_Ref_hasRoom.getD i (0, .aload_n 0, 1)).2.1, (tab_Ref_hasRoom.getD i (0, .aload_n 0, 1)).2.2) := j_tab (by decide +kernel) i
theorem d_Ref_hasRoom_0 : decode (jm_cod M_Ref_hasRoom) 0 = .ok (.aload_n 0, 1) := dt_Ref_hasRoom 0
theorem d_Ref_hasRoom_1 : decode (jm_cod M_Ref_hasRoom) 1 = .ok (.getfield 115, 3) := dt_Ref_hasRoom 1
theorem d_Ref_hasRoom_4 : decode (jm_cod M_Ref_hasRoom) 4 = .ok (.iload_n 1, 1) := dt_Ref_hasRoom 2
theorem d_Ref_hasRoom_5 : decode (jm_cod M_Ref_hasRoom) 5 = .ok (.iaload, 1) := dt_Ref_hasRoom 3
theorem d_Ref_hasRoom_6 : decode (jm_cod M_Ref_hasRoom) 6 = .ok (.iload_n 1, 1) := dt_Ref_hasRoom 4
theorem d_Ref_hasRoom_7 : decode (jm_cod M_Ref_hasRoom) 7 = .ok (.invokestatic 333, 3) := dt_Ref_hasRoom 5
theorem d_Ref_hasRoom_10 : decode (jm_cod M_Ref_hasRoom) 10 = .ok (.if_icmp .ge 7, 3) := dt_Ref_hasRoom 6
theorem d_Ref_hasRoom_13 : decode (jm_cod M_Ref_hasRoom) 13 = .ok (.iconst 1, 1) := dt_Ref_hasRoom 7
theorem d_Ref_hasRoom_14 : decode (jm_cod M_Ref_hasRoom) 14 = .ok (.goto 4, 3) := dt_Ref_hasRoom 8
theorem d_Ref_hasRoom_17 : decode (jm_cod M_Ref_hasRoom) 17 = .ok (.iconst 0, 1) := dt_Ref_hasRoom 9
theorem d_Ref_hasRoom_18 : decode (jm_cod M_Ref_hasRoom) 18 = .ok (.ireturn, 1) := dt_Ref_hasRoom 10
def tab_Ref_roomOf : List (Nat × Instr × Nat) := [(0, .iload_n 0, 1), (1, .iconst 5, 1), (2, .irem, 1), (3, .iconst 1, 1), (4, .if_icmp .eq 10, 3), (7, .iload_n 0, 1), (8, .iconst 5, 1), (9, .irem, 1), (10, .iconst 4, 1), (11, .if_icmp .ne 7, 3), (14, .iconst 4, 1), (15, .goto 4, 3), (18, .iconst 2, 1), (19, .ireturn, 1)]
theorem dt_Ref_roomOf (i : Nat) : decode (jm_cod M_Ref_roomOf) (tab_Ref_roomOf.getD i (0, .iload_n 0, 1)).1 = .ok ((tab_Ref_roomOf.getD i (0, .iload_n 0, 1)).2.1, (tab_Ref_roomOf.getD i (0, .iload_n 0, 1)).2.2) := j_tab (by decide +kernel) i
theorem d_Ref_roomOf_0 : decode (jm_cod M_Ref_roomOf) 0 = .ok (.iload_n 0, 1) := dt_Ref_roomOf 0
theorem d_Ref_roomOf_1 : decode (jm_cod M_Ref_roomOf) 1 = .ok (.iconst 5, 1) := dt_Ref_roomOf 1
theorem d_Ref_roomOf_2 : decode (jm_cod M_Ref_roomOf) 2 = .ok (.irem, 1) := dt_Ref_roomOf 2
theorem d_Ref_roomOf_3 : decode (jm_cod M_Ref_roomOf) 3 = .ok (.iconst 1, 1) := dt_Ref_roomOf 3
theorem d_Ref_roomOf_4 : decode (jm_cod M_Ref_roomOf) 4 = .ok (.if_icmp .eq 10, 3) := dt_Ref_roomOf 4
theorem d_Ref_roomOf_7 : decode (jm_cod M_Ref_roomOf) 7 = .ok (.iload_n 0, 1) := dt_Ref_roomOf 5
theorem d_Ref_roomOf_8 : decode (jm_cod M_Ref_roomOf) 8 = .ok (.iconst 5, 1) := dt_Ref_roomOf 6
theorem d_Ref_roomOf_9 : decode (jm_cod M_Ref_roomOf) 9 = .ok (.irem, 1) := dt_Ref_roomOf 7
theorem d_Ref_roomOf_10 : decode (jm_cod M_Ref_roomOf) 10 = .ok (.iconst 4, 1) := dt_Ref_roomOf 8
theorem d_Ref_roomOf_11 : decode (jm_cod M_Ref_roomOf) 11 = .ok (.if_icmp .ne 7, 3) := dt_Ref_roomOf 9
theorem d_Ref_roomOf_14 : decode (jm_cod M_Ref_roomOf) 14 = .ok (.iconst 4, 1) := dt_Ref_roomOf 10
theorem d_Ref_roomOf_15 : decode (jm_cod M_Ref_roomOf) 15 = .ok (.goto 4, 3) := dt_Ref_roomOf 11
theorem d_Ref_roomOf_18 : decode (jm_cod M_Ref_roomOf) 18 = .ok (.iconst 2, 1) := dt_Ref_roomOf 12
theorem d_Ref_roomOf_19 : decode (jm_cod M_Ref_roomOf) 19 = .ok (.ireturn, 1) := dt_Ref_roomOf 13
def tab_Ref_showSlave : List (Nat × Instr × Nat) := [(0, .iconst 5, 1), (1, .iconst 4, 1), (2, .iload_n 1, 1), (3, .iadd, 1), (4, .imul, 1), (5, .istore_n 2, 1), (6, .iconst 0, 1), (7, .istore_n 3, 1), (8, .iload_n 3, 1), (9, .iconst 5, 1), (10, .if_icmp .ge 90, 3), (13, .iload_n 3, 1), (14, .iconst 2, 1), (15, .if_icmp .eq 8, 3), (18, .iload_n 3, 1), (19, .iconst 4, 1), (20, .if_icmp .ne 25, 3), (23, .aload_n 0, 1), (24, .getfield 91, 3), (27, .iload_n 2, 1), (28, .iload_n 3, 1), (29, .iadd, 1), (30, .aload_n 0, 1), (31, .aload_n 0, 1), (32, .iconst 1, 1), (33, .iload_n 1, 1), (34, .iload_n 3, 1), (35, .invokevirtual 388, 3), (38, .invokevirtual 392, 3), (41, .bastore, 1), (42, .goto 52, 3), (45, .aload_n 0, 1), (46, .iconst 1, 1), (47, .iload_n 1, 1), (48, .iload_n 3, 1), (49, .invokevirtual 388, 3), (52, .istore 4, 2), (54, .aload_n 0, 1), (55, .iload_n 2, 1), (56, .iload_n 3, 1), (57, .iadd, 1), (58, .aload_n 0, 1), (59, .getfield 115, 3), (62, .iload 4, 2), (64, .iaload, 1), (65, .ifCond .le 7, 3), (68, .iconst 1, 1), (69, .goto 4, 3), (72, .iconst 0, 1), (73, .aload_n 0, 1), (74, .getfield 106, 3), (77, .iconst 4, 1), (78, .iload 4, 2), (80, .imul, 1), (81, .laload, 1), (82, .aload_n 0, 1), (83, .getfield 109, 3), (86, .iconst 4, 1), (87, .iload 4, 2), (89, .imul, 1), (90, .iaload, 1), (91, .invokevirtual 359, 3), (94, .iinc 3 1, 3), (97, .goto (-89), 3), (100, .iconst 0, 1), (101, .istore_n 3, 1), (102, .iconst 0, 1), (103, .istore 4, 2), (105, .iload 4, 2), (107, .aload_n 0, 1), (108, .getfield 154, 3), (111, .iload_n 1, 1), (112, .iaload, 1), (113, .if_icmp .ge 52, 3), (116, .aload_n 0, 1), (117, .getfield 157, 3), (120, .iconst 4, 1), (121, .iload_n 1, 1), (122, .imul, 1), (123, .iload 4, 2), (125, .iadd, 1), (126, .iaload, 1), (127, .istore 5, 2), (129, .iload_n 3, 1), (130, .ifCond .ne 23, 3), (133, .aload_n 0, 1), (134, .getfield 166, 3), (137, .iload 5, 2), (139, .iaload, 1), (140, .aload_n 0, 1), (141, .getfield 163, 3), (144, .iload 5, 2), (146, .laload, 1), (147, .invokestatic 321, 3), (150, .if_icmp .ge 7, 3), (153, .iconst 1, 1), (154, .goto 4, 3), (157, .iconst 0, 1), (158, .istore_n 3, 1), (159, .iinc 4 1, 3), (162, .goto (-57), 3), (165, .aload_n 0, 1), (166, .getfield 91, 3), (169, .iload_n 2, 1), (170, .iconst 0, 1), (171, .iadd, 1), (172, .aload_n 0, 1), (173, .getfield 16, 3), (176, .iconst 5, 1), (177, .iload_n 1, 1), (178, .imul, 1), (179, .iconst 0, 1), (180, .iadd, 1), (181, .iaload, 1), (182, .aload_n 0, 1), (183, .getfield 348, 3), (186, .invokestatic 351, 3), (189, .ifCond .eq 17, 3), (192, .aload_n 0, 1), (193, .getfield 154, 3), (196, .iload_n 1, 1), (197, .iaload, 1), (198, .iconst 4, 1), (199, .if_icmp .ge 7, 3), (202, .iconst 1, 1), (203, .goto 4, 3), (206, .iconst 0, 1), (207, .bastore, 1), (208, .aload_n 0, 1), (209, .getfield 91, 3), (212, .iload_n 2, 1), (213, .iconst 1, 1), (214, .iadd, 1), (215, .aload_n 0, 1), (216, .getfield 16, 3), (219, .iconst 5, 1), (220, .iload_n 1, 1), (221, .imul, 1), (222, .iconst 1, 1), (223, .iadd, 1), (224, .iaload, 1), (225, .aload_n 0, 1), (226, .getfield 348, 3), (229, .invokestatic 351, 3), (232, .ifCond .eq 11, 3), (235, .iload_n 3, 1), (236, .ifCond .eq 7, 3), (239, .iconst 1, 1), (240, .goto 4, 3), (243, .iconst 0, 1), (244, .bastore, 1), (245, .aload_n 0, 1), (246, .getfield 91, 3), (249, .iload_n 2, 1), (250, .iconst 3, 1), (251, .iadd, 1), (252, .aload_n 0, 1), (253, .getfield 16, 3), (256, .iconst 5, 1), (257, .iload_n 1, 1), (258, .imul, 1), (259, .iconst 3, 1), (260, .iadd, 1), (261, .iaload, 1), (262, .aload_n 0, 1), (263, .getfield 348, 3), (266, .invokestatic 351, 3), (269, .ifCond .eq 17, 3), (272, .aload_n 0, 1), (273, .getfield 181, 3), (276, .iload_n 1, 1), (277, .iaload, 1), (278, .iconst 4, 1), (279, .if_icmp .ge 7, 3), (282, .iconst 1, 1), (283, .goto 4, 3), (286, .iconst 0, 1), (287, .bastore, 1), (288, .aload_n 0, 1), (289, .getfield 100, 3), (292, .iload_n 2, 1), (293, .iconst 2, 1), (294, .iadd, 1), (295, .baload, 1), (296, .ifCond .ne 50, 3), (299, .aload_n 0, 1), (300, .getfield 214, 3), (303, .iload_n 1, 1), (304, .aload_n 0, 1), (305, .iload_n 1, 1), (306, .invokevirtual 409, 3), (309, .iastore, 1), (310, .aload_n 0, 1), (311, .getfield 214, 3), (314, .iload_n 1, 1), (315, .aload_n 0, 1), (316, .getfield 16, 3), (319, .iconst 5, 1), (320, .iload_n 1, 1), (321, .imul, 1), (322, .iconst 2, 1), (323, .iadd, 1), (324, .iaload, 1), (325, .aload_n 0, 1), (326, .getfield 348, 3), (329, .invokestatic 351, 3), (332, .ifCond .eq 12, 3), (335, .aload_n 0, 1), (336, .getfield 214, 3), (339, .iload_n 1, 1), (340, .iaload, 1), (341, .goto 4, 3), (344, .iconst (-1), 1), (345, .iastore, 1), (346, .aload_n 0, 1), (347, .getfield 214, 3), (350, .iload_n 1, 1), (351, .iaload, 1), (352, .istore 4, 2), (354, .aload_n 0, 1), (355, .iload_n 2, 1), (356, .iconst 2, 1), (357, .iadd, 1), (358, .iload 4, 2), (360, .iconst (-1), 1), (361, .if_icmp .eq 7, 3), (364, .iconst 1, 1), (365, .goto 4, 3), (368, .iconst 0, 1), (369, .lconst 0, 1), (370, .iload 4, 2), (372, .iconst (-1), 1), (373, .if_icmp .ne 7, 3), (376, .iconst 0, 1), (377, .goto 24, 3), (380, .aload_n 0, 1), (381, .getfield 163, 3), (384, .iload 4, 2), (386, .laload, 1), (387, .invokestatic 396, 3), (390, .bipush 64, 2), (392, .aload_n 0, 1), (393, .getfield 172, 3), (396, .iload 4, 2), (398, .iaload, 1), (399, .imul, 1), (400, .iadd, 1), (401, .invokevirtual 359, 3), (404, .aload_n 0, 1), (405, .getfield 100, 3), (408, .iload_n 2, 1), (409, .iconst 4, 1), (410, .iadd, 1), (411, .baload, 1), (412, .ifCond .ne 50, 3), (415, .aload_n 0, 1), (416, .getfield 217, 3), (419, .iload_n 1, 1), (420, .aload_n 0, 1), (421, .iload_n 1, 1), (422, .invokevirtual 412, 3), (425, .iastore, 1), (426, .aload_n 0, 1), (427, .getfield 217, 3), (430, .iload_n 1, 1), (431, .aload_n 0, 1), (432, .getfield 16, 3), (435, .iconst 5, 1), (436, .iload_n 1, 1), (437, .imul, 1), (438, .iconst 4, 1), (439, .iadd, 1), (440, .iaload, 1), (441, .aload_n 0, 1), (442, .getfield 348, 3), (445, .invokestatic 351, 3), (448, .ifCond .eq 12, 3), (451, .aload_n 0, 1), (452, .getfield 217, 3), (455, .iload_n 1, 1), (456, .iaload, 1), (457, .goto 4, 3), (460, .iconst (-1), 1), (461, .iastore, 1), (462, .aload_n 0, 1), (463, .getfield 217, 3), (466, .iload_n 1, 1), (467, .iaload, 1), (468, .istore 5, 2), (470, .iload 5, 2), (472, .iconst (-1), 1), (473, .if_icmp .ne 14, 3), (476, .aload_n 0, 1), (477, .iload_n 2, 1), (478, .iconst 4, 1), (479, .iadd, 1), (480, .iconst 0, 1), (481, .lconst 0, 1), (482, .iconst 0, 1), (483, .invokevirtual 359, 3), (486, .return_, 1), (487, .aload_n 0, 1), (488, .getfield 193, 3), (491, .iload 5, 2), (493, .iaload, 1), (494, .istore 6, 2), (496, .iload 6, 2), (498, .aload_n 0, 1), (499, .getfield 190, 3), (502, .iload 5, 2), (504, .laload, 1), (505, .invokestatic 321, 3), (508, .iconst 1, 1), (509, .isub, 1), (510, .if_icmp .ne 7, 3), (513, .iconst 1, 1), (514, .goto 4, 3), (517, .iconst 0, 1), (518, .istore 7, 2), (520, .aload_n 0, 1), (521, .iload_n 2, 1), (522, .iconst 4, 1), (523, .iadd, 1), (524, .iconst 1, 1), (525, .aload_n 0, 1), (526, .getfield 202, 3), (529, .bipush 16, 2), (531, .iload 5, 2), (533, .imul, 1), (534, .iload 6, 2), (536, .iadd, 1), (537, .laload, 1), (538, .aload_n 0, 1), (539, .getfield 190, 3), (542, .iload 5, 2), (544, .laload, 1), (545, .invokestatic 396, 3), (548, .bipush 64, 2), (550, .aload_n 0, 1), (551, .getfield 205, 3), (554, .bipush 16, 2), (556, .iload 5, 2), (558, .imul, 1), (559, .iload 6, 2), (561, .iadd, 1), (562, .iaload, 1), (563, .imul, 1), (564, .iadd, 1), (565, .iload 7, 2), (567, .ifCond .eq 9, 3), (570, .sipush 256, 3), (573, .goto 4, 3), (576, .iconst 0, 1), (577, .iadd, 1), (578, .invokevirtual 359, 3), (581, .return_, 1)]
theorem dt_Ref_showSlave (i : Nat) : decode (jm_cod M_Ref_showSlave) (tab_Ref_showSlave.getD i (0, .iconst 5, 1)).1 = .ok ((tab_Ref_showSlave.getD i (0, .iconst 5, 1)).2.1, (tab_Ref_showSlave.getD i (0, .iconst 5, 1)).2.2) := j_tab (by decide +kernel) i
theorem d_Ref_showSlave_0 : decode (jm_cod M_Ref_showSlave) 0 = .ok (.iconst 5, 1) := dt_Ref_showSlave 0
theorem d_Ref_showSlave_1 : decode (jm_cod M_Ref_showSlave) 1 = .ok (.iconst 4, 1) := dt_Ref_showSlave 1
theorem d_Ref_showSlave_2 : decode (jm_cod M_Ref_showSlave) 2 = .ok (.iload_n 1, 1) := dt_Ref_showSlave 2
theorem d_Ref_showSlave_3 : decode (jm_cod M_Ref_showSlave) 3 = .ok (.iadd, 1) := dt_Ref_showSlave 3
theorem d_Ref_showSlave_4 : decode (jm_cod M_Ref_showSlave) 4 = .ok (.imul, 1) := dt_Ref_showSlave 4
theorem d_Ref_showSlave_5 : decode (jm_cod M_Ref_showSlave) 5 = .ok (.istore_n 2, 1) := dt_Ref_showSlave 5
theorem d_Ref_showSlave_6 : decode (jm_cod M_Ref_showSlave) 6 = .ok (.iconst 0, 1) := dt_Ref_showSlave 6
theorem d_Ref_showSlave_7 : decode (jm_cod M_Ref_showSlave) 7 = .ok (.istore_n 3, 1) := dt_Ref_showSlave 7
theorem d_Ref_showSlave_8 : decode (jm_cod M_Ref_showSlave) 8 = .ok (.iload_n 3, 1) := dt_Ref_showSlave 8
theorem d_Ref_showSlave_9 : decode (jm_cod M_Ref_showSlave) 9 = .ok (.iconst 5, 1) := dt_Ref_showSlave 9
theorem d_Ref_showSlave_10 : decode (jm_cod M_Ref_showSlave) 10 = .ok (.if_icmp .ge 90, 3) := dt_Ref_showSlave 10
theorem d_Ref_showSlave_13 : decode (jm_cod M_Ref_showSlave) 13 = .ok (.iload_n 3, 1) := dt_Ref_showSlave 11
theorem d_Ref_showSlave_14 : decode (jm_cod M_Ref_showSlave) 14 = .ok (.iconst 2, 1) := dt_Ref_showSlave 12
theorem d_Ref_showSlave_15 : decode (jm_cod M_Ref_showSlave) 15 = .ok (.if_icmp .eq 8, 3) := dt_Ref_showSlave 13
theorem d_Ref_showSlave_18 : decode (jm_cod M_Ref_showSlave) 18 = .ok (.iload_n 3, 1) := dt_Ref_showSlave 14
theorem d_Ref_showSlave_19 : decode (jm_cod M_Ref_showSlave) 19 = .ok (.iconst 4, 1) := dt_Ref_showSlave 15
theorem d_Ref_showSlave_20 : decode (jm_cod M_Ref_showSlave) 20 = .ok (.if_icmp .ne 25, 3) := dt_Ref_showSlave 16
theorem d_Ref_showSlave_23 : decode (jm_cod M_Ref_showSlave) 23 = .ok (.aload_n 0, 1) := dt_Ref_showSlave 17
theorem d_Ref_showSlave_24 : decode (jm_cod M_Ref_showSlave) 24 = .ok (.getfield 91, 3) := dt_Ref_showSlave 18
theorem d_Ref_showSlave_27 : decode (jm_cod M_Ref_showSlave) 27 = .ok (.iload_n 2, 1) := dt_Ref_showSlave 19
theorem d_Ref_showSlave_28 : decode (jm_cod M_Ref_showSlave) 28 = .ok (.iload_n 3, 1) := dt_Ref_showSlave 20
theorem d_Ref_showSlave_29 : decode (jm_cod M_Ref_showSlave) 29 = .ok (.iadd, 1) := dt_Ref_showSlave 21
theorem d_Ref_showSlave_30 : decode (jm_cod M_Ref_showSlave) 30 = .ok (.aload_n 0, 1) := dt_Ref_showSlave 22
theorem d_Ref_showSlave_31 : decode (jm_cod M_Ref_showSlave) 31 = .ok (.aload_n 0, 1) := dt_Ref_showSlave 23
theorem d_Ref_showSlave_32 : decode (jm_cod M_Ref_showSlave) 32 = .ok (.iconst 1, 1) := dt_Ref_showSlave 24
theorem d_Ref_showSlave_33 : decode (jm_cod M_Ref_showSlave) 33 = .ok (.iload_n 1, 1) := dt_Ref_showSlave 25
theorem d_Ref_showSlave_34 : decode (jm_cod M_Ref_showSlave) 34 = .ok (.iload_n 3, 1) := dt_Ref_showSlave 26
theorem d_Ref_showSlave_35 : decode (jm_cod M_Ref_showSlave) 35 = .ok (.invokevirtual 388, 3) := dt_Ref_showSlave 27
theorem d_Ref_showSlave_38 : decode (jm_cod M_Ref_showSlave) 38 = .ok (.invokevirtual 392, 3) := dt_Ref_showSlave 28
theorem d_Ref_showSlave_41 : decode (jm_cod M_Ref_showSlave) 41 = .ok (.bastore, 1) := dt_Ref_showSlave 29
theorem d_Ref_showSlave_42 : decode (jm_cod M_Ref_showSlave) 42 = .ok (.goto 52, 3) := dt_Ref_showSlave 30
theorem d_Ref_showSlave_45 : decode (jm_cod M_Ref_showSlave) 45 = .ok (.aload_n 0, 1) := dt_Ref_showSlave 31
theorem d_Ref_showSlave_46 : decode (jm_cod M_Ref_showSlave) 46 = .ok (.iconst 1, 1) := dt_Ref_showSlave 32
theorem d_Ref_showSlave_47 : decode (jm_cod M_Ref_showSlave) 47 = .ok (.iload_n 1, 1) := dt_Ref_showSlave 33
theorem d_Ref_showSlave_48 : decode (jm_cod M_Ref_showSlave) 48 = .ok (.iload_n 3, 1) := dt_Ref_showSlave 34
theorem d_Ref_showSlave_49 : decode (jm_cod M_Ref_showSlave) 49 = .ok (.invokevirtual 388, 3) := dt_Ref_showSlave 35
theorem d_Ref_showSlave_52 : decode (jm_cod M_Ref_showSlave) 52 = .ok (.istore 4, 2) := dt_Ref_showSlave 36
theorem d_Ref_showSlave_54 : decode (jm_cod M_Ref_showSlave) 54 = .ok (.aload_n 0, 1) := dt_Ref_showSlave 37
theorem d_Ref_showSlave_55 : decode (jm_cod M_Ref_showSlave) 55 = .ok (.iload_n 2, 1) := dt_Ref_showSlave 38
theorem d_Ref_showSlave_56 : decode (jm_cod M_Ref_showSlave) 56 = .ok (.iload_n 3, 1) := dt_Ref_showSlave 39
theorem d_Ref_showSlave_57 : decode (jm_cod M_Ref_showSlave) 57 = .ok (.iadd, 1) := dt_Ref_showSlave 40
theorem d_Ref_showSlave_58 : decode (jm_cod M_Ref_showSlave) 58 = .ok (.aload_n 0, 1) := dt_Ref_showSlave 41
theorem d_Ref_showSlave_59 : decode (jm_cod M_Ref_showSlave) 59 = .ok (.getfield 115, 3) := dt_Ref_showSlave 42
theorem d_Ref_showSlave_62 : decode (jm_cod M_Ref_showSlave) 62 = .ok (.iload 4, 2) := dt_Ref_showSlave 43
theorem d_Ref_showSlave_64 : decode (jm_cod M_Ref_showSlave) 64 = .ok (.iaload, 1) := dt_Ref_showSlave 44
theorem d_Ref_showSlave_65 : decode (jm_cod M_Ref_showSlave) 65 = .ok (.ifCond .le 7, 3) := dt_Ref_showSlave 45
theorem d_Ref_showSlave_68 : decode (jm_cod M_Ref_showSlave) 68 = .ok (.iconst 1, 1) := dt_Ref_showSlave 46
theorem d_Ref_showSlave_69 : decode (jm_cod M_Ref_showSlave) 69 = .ok (.goto 4, 3) := dt_Ref_showSlave 47
theorem d_Ref_showSlave_72 : decode (jm_cod M_Ref_showSlave) 72 = .ok (.iconst 0, 1) := dt_Ref_showSlave 48
theorem d_Ref_showSlave_73 : decode (jm_cod M_Ref_showSlave) 73 = .ok (.aload_n 0, 1) := dt_Ref_showSlave 49
theorem d_Ref_showSlave_74 : decode (jm_cod M_Ref_showSlave) 74 = .ok (.getfield 106, 3) := dt_Ref_showSlave 50
theorem d_Ref_showSlave_77 : decode (jm_cod M_Ref_showSlave) 77 = .ok (.iconst 4, 1) := dt_Ref_showSlave 51
theorem d_Ref_showSlave_78 : decode (jm_cod M_Ref_showSlave) 78 = .ok (.iload 4, 2) := dt_Ref_showSlave 52
theorem d_Ref_showSlave_80 : decode (jm_cod M_Ref_showSlave) 80 = .ok (.imul, 1) := dt_Ref_showSlave 53
theorem d_Ref_showSlave_81 : decode (jm_cod M_Ref_showSlave) 81 = .ok (.laload, 1) := dt_Ref_showSlave 54
theorem d_Ref_showSlave_82 : decode (jm_cod M_Ref_showSlave) 82 = .ok (.aload_n 0, 1) := dt_Ref_showSlave 55
theorem d_Ref_showSlave_83 : decode (jm_cod M_Ref_showSlave) 83 = .ok (.getfield 109, 3) := dt_Ref_showSlave 56
theorem d_Ref_showSlave_86 : decode (jm_cod M_Ref_showSlave) 86 = .ok (.iconst 4, 1) := dt_Ref_showSlave 57
theorem d_Ref_showSlave_87 : decode (jm_cod M_Ref_showSlave) 87 = .ok (.iload 4, 2) := dt_Ref_showSlave 58
theorem d_Ref_showSlave_89 : decode (jm_cod M_Ref_showSlave) 89 = .ok (.imul, 1) := dt_Ref_showSlave 59
theorem d_Ref_showSlave_90 : decode (jm_cod M_Ref_showSlave) 90 = .ok (.iaload, 1) := dt_Ref_showSlave 60
theorem d_Ref_showSlave_91 : decode (jm_cod M_Ref_showSlave) 91 = .ok (.invokevirtual 359, 3) := dt_Ref_showSlave 61
theorem d_Ref_showSlave_94 : decode (jm_cod M_Ref_showSlave) 94 = .ok (.iinc 3 1, 3) := dt_Ref_showSlave 62
theorem d_Ref_showSlave_97 : decode (jm_cod M_Ref_showSlave) 97 = .ok (.goto (-89), 3) := dt_Ref_showSlave 63
theorem d_Ref_showSlave_100 : decode (jm_cod M_Ref_showSlave) 100 = .ok (.iconst 0, 1) := dt_Ref_showSlave 64
theorem d_Ref_showSlave_101 : decode (jm_cod M_Ref_showSlave) 101 = .ok (.istore_n 3, 1) := dt_Ref_showSlave 65
theorem d_Ref_showSlave_102 : decode (jm_cod M_Ref_showSlave) 102 = .ok (.iconst 0, 1) := dt_Ref_showSlave 66
theorem d_Ref_showSlave_103 : decode (jm_cod M_Ref_showSlave) 103 = .ok (.istore 4, 2) := dt_Ref_showSlave 67
theorem d_Ref_showSlave_105 : decode (jm_cod M_Ref_showSlave) 105 = .ok (.iload 4, 2) := dt_Ref_showSlave 68
theorem d_Ref_showSlave_107 : decode (jm_cod M_Ref_showSlave) 107 = .ok (.aload_n 0, 1) := dt_Ref_showSlave 69
theorem d_Ref_showSlave_108 : decode (jm_cod M_Ref_showSlave) 108 = .ok (.getfield 154, 3) := dt_Ref_showSlave 70
theorem d_Ref_showSlave_111 : decode (jm_cod M_Ref_showSlave) 111 = .ok (.iload_n 1, 1) := dt_Ref_showSlave 71
theorem d_Ref_showSlave_112 : decode (jm_cod M_Ref_showSlave) 112 = .ok (.iaload, 1) := dt_Ref_showSlave 72
theorem d_Ref_showSlave_113 : decode (jm_cod M_Ref_showSlave) 113 = .ok (.if_icmp .ge 52, 3) := dt_Ref_showSlave 73
theorem d_Ref_showSlave_116 : decode (jm_cod M_Ref_showSlave) 116 = .ok (.aload_n 0, 1) := dt_Ref_showSlave 74
theorem d_Ref_showSlave_117 : decode (jm_cod M_Ref_showSlave) 117 = .ok (.getfield 157, 3) := dt_Ref_showSlave 75
theorem d_Ref_showSlave_120 : decode (jm_cod M_Ref_showSlave) 120 = .ok (.iconst 4, 1) := dt_Ref_showSlave 76
theorem d_Ref_showSlave_121 : decode (jm_cod M_Ref_showSlave) 121 = .ok (.iload_n 1, 1) := dt_Ref_showSlave 77
theorem d_Ref_showSlave_122 : decode (jm_cod M_Ref_showSlave) 122 = .ok (.imul, 1) := dt_Ref_showSlave 78
theorem d_Ref_showSlave_123 : decode (jm_cod M_Ref_showSlave) 123 = .ok (.iload 4, 2) := dt_Ref_showSlave 79
theorem d_Ref_showSlave_125 : decode (jm_cod M_Ref_showSlave) 125 = .ok (.iadd, 1) := dt_Ref_showSlave 80
theorem d_Ref_showSlave_126 : decode (jm_cod M_Ref_showSlave) 126 = .ok (.iaload, 1) := dt_Ref_showSlave 81
theorem d_Ref_showSlave_127 : decode (jm_cod M_Ref_showSlave) 127 = .ok (.istore 5, 2) := dt_Ref_showSlave 82
theorem d_Ref_showSlave_129 : decode (jm_cod M_Ref_showSlave) 129 = .ok (.iload_n 3, 1) := dt_Ref_showSlave 83
theorem d_Ref_showSlave_130 : decode (jm_cod M_Ref_showSlave) 130 = .ok (.ifCond .ne 23, 3) := dt_Ref_showSlave 84
theorem d_Ref_showSlave_133 : decode (jm_cod M_Ref_showSlave) 133 = .ok (.aload_n 0, 1) := dt_Ref_showSlave 85
theorem d_Ref_showSlave_134 : decode (jm_cod M_Ref_showSlave) 134 = .ok (.getfield 166, 3) := dt_Ref_showSlave 86
theorem d_Ref_showSlave_137 : decode (jm_cod M_Ref_showSlave) 137 = .ok (.iload 5, 2) := dt_Ref_showSlave 87
theorem d_Ref_showSlave_139 : decode (jm_cod M_Ref_showSlave) 139 = .ok (.iaload, 1) := dt_Ref_showSlave 88
theorem d_Ref_showSlave_140 : decode (jm_cod M_Ref_showSlave) 140 = .ok (.aload_n 0, 1) := dt_Ref_showSlave 89
theorem d_Ref_showSlave_141 : decode (jm_cod M_Ref_showSlave) 141 = .ok (.getfield 163, 3) := dt_Ref_showSlave 90
theorem d_Ref_showSlave_144 : decode (jm_cod M_Ref_showSlave) 144 = .ok (.iload 5, 2) := dt_Ref_showSlave 91
theorem d_Ref_showSlave_146 : decode (jm_cod M_Ref_showSlave) 146 = .ok (.laload, 1) := dt_Ref_showSlave 92
theorem d_Ref_showSlave_147 : decode (jm_cod M_Ref_showSlave) 147 = .ok (.invokestatic 321, 3) := dt_Ref_showSlave 93
theorem d_Ref_showSlave_150 : decode (jm_cod M_Ref_showSlave) 150 = .ok (.if_icmp .ge 7, 3) := dt_Ref_showSlave 94
theorem d_Ref_showSlave_153 : decode (jm_cod M_Ref_showSlave) 153 = .ok (.iconst 1, 1) := dt_Ref_showSlave 95
theorem d_Ref_showSlave_154 : decode (jm_cod M_Ref_showSlave) 154 = .ok (.goto 4, 3) := dt_Ref_showSlave 96
theorem d_Ref_showSlave_157 : decode (jm_cod M_Ref_showSlave) 157 = .ok (.iconst 0, 1) := dt_Ref_showSlave 97
theorem d_Ref_showSlave_158 : decode (jm_cod M_Ref_showSlave) 158 = .ok (.istore_n 3, 1) := dt_Ref_showSlave 98
theorem d_Ref_showSlave_159 : decode (jm_cod M_Ref_showSlave) 159 = .ok (.iinc 4 1, 3) := dt_Ref_showSlave 99
theorem d_Ref_showSlave_162 : decode (jm_cod M_Ref_showSlave) 162 = .ok (.goto (-57), 3) := dt_Ref_showSlave 100
theorem d_Ref_showSlave_165 : decode (jm_cod M_Ref_showSlave) 165 = .ok (.aload_n 0, 1) := dt_Ref_showSlave 101
theorem d_Ref_showSlave_166 : decode (jm_cod M_Ref_showSlave) 166 = .ok (.getfield 91, 3) := dt_Ref_showSlave 102
theorem d_Ref_showSlave_169 : decode (jm_cod M_Ref_showSlave) 169 = .ok (.iload_n 2, 1) := dt_Ref_showSlave 103
theorem d_Ref_showSlave_170 : decode (jm_cod M_Ref_showSlave) 170 = .ok (.iconst 0, 1) := dt_Ref_showSlave 104
theorem d_Ref_showSlave_171 : decode (jm_cod M_Ref_showSlave) 171 = .ok (.iadd, 1) := dt_Ref_showSlave 105
theorem d_Ref_showSlave_172 : decode (jm_cod M_Ref_showSlave) 172 = .ok (.aload_n 0, 1) := dt_Ref_showSlave 106
theorem d_Ref_showSlave_173 : decode (jm_cod M_Ref_showSlave) 173 = .ok (.getfield 16, 3) := dt_Ref_showSlave 107
theorem d_Ref_showSlave_176 : decode (jm_cod M_Ref_showSlave) 176 = .ok (.iconst 5, 1) := dt_Ref_showSlave 108
theorem d_Ref_showSlave_177 : decode (jm_cod M_Ref_showSlave) 177 = .ok (.iload_n 1, 1) := dt_Ref_showSlave 109
theorem d_Ref_showSlave_178 : decode (jm_cod M_Ref_showSlave) 178 = .ok (.imul, 1) := dt_Ref_showSlave 110
theorem d_Ref_showSlave_179 : decode (jm_cod M_Ref_showSlave) 179 = .ok (.iconst 0, 1) := dt_Ref_showSlave 111
theorem d_Ref_showSlave_180 : decode (jm_cod M_Ref_showSlave) 180 = .ok (.iadd, 1) := dt_Ref_showSlave 112
theorem d_Ref_showSlave_181 : decode (jm_cod M_Ref_showSlave) 181 = .ok (.iaload, 1) := dt_Ref_showSlave 113
theorem d_Ref_showSlave_182 : decode (jm_cod M_Ref_showSlave) 182 = .ok (.aload_n 0, 1) := dt_Ref_showSlave 114
theorem d_Ref_showSlave_183 : decode (jm_cod M_Ref_showSlave) 183 = .ok (.getfield 348, 3) := dt_Ref_showSlave 115
theorem d_Ref_showSlave_186 : decode (jm_cod M_Ref_showSlave) 186 = .ok (.invokestatic 351, 3) := dt_Ref_showSlave 116
theorem d_Ref_showSlave_189 : decode (jm_cod M_Ref_showSlave) 189 = .ok (.ifCond .eq 17, 3) := dt_Ref_showSlave 117
theorem d_Ref_showSlave_192 : decode (jm_cod M_Ref_showSlave) 192 = .ok (.aload_n 0, 1) := dt_Ref_showSlave 118
theorem d_Ref_showSlave_193 : decode (jm_cod M_Ref_showSlave) 193 = .ok (.getfield 154, 3) := dt_Ref_showSlave 119
theorem d_Ref_showSlave_196 : decode (jm_cod M_Ref_showSlave) 196 = .ok (.iload_n 1, 1) := dt_Ref_showSlave 120
theorem d_Ref_showSlave_197 : decode (jm_cod M_Ref_showSlave) 197 = .ok (.iaload, 1) := dt_Ref_showSlave 121
theorem d_Ref_showSlave_198 : decode (jm_cod M_Ref_showSlave) 198 = .ok (.iconst 4, 1) := dt_Ref_showSlave 122
theorem d_Ref_showSlave_199 : decode (jm_cod M_Ref_showSlave) 199 = .ok (.if_icmp .ge 7, 3) := dt_Ref_showSlave 123
theorem d_Ref_showSlave_202 : decode (jm_cod M_Ref_showSlave) 202 = .ok (.iconst 1, 1) := dt_Ref_showSlave 124
theorem d_Ref_showSlave_203 : decode (jm_cod M_Ref_showSlave) 203 = .ok (.goto 4, 3) := dt_Ref_showSlave 125
theorem d_Ref_showSlave_206 : decode (jm_cod M_Ref_showSlave) 206 = .ok (.iconst 0, 1) := dt_Ref_showSlave 126
theorem d_Ref_showSlave_207 : decode (jm_cod M_Ref_showSlave) 207 = .ok (.bastore, 1) := dt_Ref_showSlave 127
theorem d_Ref_showSlave_208 : decode (jm_cod M_Ref_showSlave) 208 = .ok (.aload_n 0, 1) := dt_Ref_showSlave 128
theorem d_Ref_showSlave_209 : decode (jm_cod M_Ref_showSlave) 209 = .ok (.getfield 91, 3) := dt_Ref_showSlave 129
theorem d_Ref_showSlave_212 : decode (jm_cod M_Ref_showSlave) 212 = .ok (.iload_n 2, 1) := dt_Ref_showSlave 130
theorem d_Ref_showSlave_213 : decode (jm_cod M_Ref_showSlave) 213 = .ok (.iconst 1, 1) := dt_Ref_showSlave 131
theorem d_Ref_showSlave_214 : decode (jm_cod M_Ref_showSlave) 214 = .ok (.iadd, 1) := dt_Ref_showSlave 132
theorem d_Ref_showSlave_215 : decode (jm_cod M_Ref_showSlave) 215 = .ok (.aload_n 0, 1) := dt_Ref_showSlave 133
theorem d_Ref_showSlave_216 : decode (jm_cod M_Ref_showSlave) 216 = .ok (.getfield 16, 3) := dt_Ref_showSlave 134
theorem d_Ref_showSlave_219 : decode (jm_cod M_Ref_showSlave) 219 = .ok (.iconst 5, 1) := dt_Ref_showSlave 135
theorem d_Ref_showSlave_220 : decode (jm_cod M_Ref_showSlave) 220 = .ok (.iload_n 1, 1) := dt_Ref_showSlave 136
theorem d_Ref_showSlave_221 : decode (jm_cod M_Ref_showSlave) 221 = .ok (.imul, 1) := dt_Ref_showSlave 137
theorem d_Ref_showSlave_222 : decode (jm_cod M_Ref_showSlave) 222 = .ok (.iconst 1, 1) := dt_Ref_showSlave 138
theorem d_Ref_showSlave_223 : decode (jm_cod M_Ref_showSlave) 223 = .ok (.iadd, 1) := dt_Ref_showSlave 139
theorem d_Ref_showSlave_224 : decode (jm_cod M_Ref_showSlave) 224 = .ok (.iaload, 1) := dt_Ref_showSlave 140
theorem d_Ref_showSlave_225 : decode (jm_cod M_Ref_showSlave) 225 = .ok (.aload_n 0, 1) := dt_Ref_showSlave 141
theorem d_Ref_showSlave_226 : decode (jm_cod M_Ref_showSlave) 226 = .ok (.getfield 348, 3) := dt_Ref_showSlave 142
theorem d_Ref_showSlave_229 : decode (jm_cod M_Ref_showSlave) 229 = .ok (.invokestatic 351, 3) := dt_Ref_showSlave 143
theorem d_Ref_showSlave_232 : decode (jm_cod M_Ref_showSlave) 232 = .ok (.ifCond .eq 11, 3) := dt_Ref_showSlave 144
theorem d_Ref_showSlave_235 : decode (jm_cod M_Ref_showSlave) 235 = .ok (.iload_n 3, 1) := dt_Ref_showSlave 145
theorem d_Ref_showSlave_236 : decode (jm_cod M_Ref_showSlave) 236 = .ok (.ifCond .eq 7, 3) := dt_Ref_showSlave 146
theorem d_Ref_showSlave_239 : decode (jm_cod M_Ref_showSlave) 239 = .ok (.iconst 1, 1) := dt_Ref_showSlave 147
theorem d_Ref_showSlave_240 : decode (jm_cod M_Ref_showSlave) 240 = .ok (.goto 4, 3) := dt_Ref_showSlave 148
theorem d_Ref_showSlave_243 : decode (jm_cod M_Ref_showSlave) 243 = .ok (.iconst 0, 1) := dt_Ref_showSlave 149
theorem d_Ref_showSlave_244 : decode (jm_cod M_Ref_showSlave) 244 = .ok (.bastore, 1) := dt_Ref_showSlave 150
theorem d_Ref_showSlave_245 : decode (jm_cod M_Ref_showSlave) 245 = .ok (.aload_n 0, 1) := dt_Ref_showSlave 151
theorem d_Ref_showSlave_246 : decode (jm_cod M_Ref_showSlave) 246 = .ok (.getfield 91, 3) := dt_Ref_showSlave 152
theorem d_Ref_showSlave_249 : decode (jm_cod M_Ref_showSlave) 249 = .ok (.iload_n 2, 1) := dt_Ref_showSlave 153
theorem d_Ref_showSlave_250 : decode (jm_cod M_Ref_showSlave) 250 = .ok (.iconst 3, 1) := dt_Ref_showSlave 154
theorem d_Ref_showSlave_251 : decode (jm_cod M_Ref_showSlave) 251 = .ok (.iadd, 1) := dt_Ref_showSlave 155
theorem d_Ref_showSlave_252 : decode (jm_cod M_Ref_showSlave) 252 = .ok (.aload_n 0, 1) := dt_Ref_showSlave 156
theorem d_Ref_showSlave_253 : decode (jm_cod M_Ref_showSlave) 253 = .ok (.getfield 16, 3) := dt_Ref_showSlave 157
theorem d_Ref_showSlave_256 : decode (jm_cod M_Ref_showSlave) 256 = .ok (.iconst 5, 1) := dt_Ref_showSlave 158
theorem d_Ref_showSlave_257 : decode (jm_cod M_Ref_showSlave) 257 = .ok (.iload_n 1, 1) := dt_Ref_showSlave 159
theorem d_Ref_showSlave_258 : decode (jm_cod M_Ref_showSlave) 258 = .ok (.imul, 1) := dt_Ref_showSlave 160
theorem d_Ref_showSlave_259 : decode (jm_cod M_Ref_showSlave) 259 = .ok (.iconst 3, 1) := dt_Ref_showSlave 161
theorem d_Ref_showSlave_260 : decode (jm_cod M_Ref_showSlave) 260 = .ok (.iadd, 1) := dt_Ref_showSlave 162
theorem d_Ref_showSlave_261 : decode (jm_cod M_Ref_showSlave) 261 = .ok (.iaload, 1) := dt_Ref_showSlave 163
theorem d_Ref_showSlave_262 : decode (jm_cod M_Ref_showSlave) 262 = .ok (.aload_n 0, 1) := dt_Ref_showSlave 164
theorem d_Ref_showSlave_263 : decode (jm_cod M_Ref_showSlave) 263 = .ok (.getfield 348, 3) := dt_Ref_showSlave 165
theorem d_Ref_showSlave_266 : decode (jm_cod M_Ref_showSlave) 266 = .ok (.invokestatic 351, 3) := dt_Ref_showSlave 166
theorem d_Ref_showSlave_269 : decode (jm_cod M_Ref_showSlave) 269 = .ok (.ifCond .eq 17, 3) := dt_Ref_showSlave 167
theorem d_Ref_showSlave_272 : decode (jm_cod M_Ref_showSlave) 272 = .ok (.aload_n 0, 1) := dt_Ref_showSlave 168
theorem d_Ref_showSlave_273 : decode (jm_cod M_Ref_showSlave) 273 = .ok (.getfield 181, 3) := dt_Ref_showSlave 169
theorem d_Ref_showSlave_276 : decode (jm_cod M_Ref_showSlave) 276 = .ok (.iload_n 1, 1) := dt_Ref_showSlave 170
theorem d_Ref_showSlave_277 : decode (jm_cod M_Ref_showSlave) 277 = .ok (.iaload, 1) := dt_Ref_showSlave 171
theorem d_Ref_showSlave_278 : decode (jm_cod M_Ref_showSlave) 278 = .ok (.iconst 4, 1) := dt_Ref_showSlave 172
theorem d_Ref_showSlave_279 : decode (jm_cod M_Ref_showSlave) 279 = .ok (.if_icmp .ge 7, 3) := dt_Ref_showSlave 173
theorem d_Ref_showSlave_282 : decode (jm_cod M_Ref_showSlave) 282 = .ok (.iconst 1, 1) := dt_Ref_showSlave 174
theorem d_Ref_showSlave_283 : decode (jm_cod M_Ref_showSlave) 283 = .ok (.goto 4, 3) := dt_Ref_showSlave 175
theorem d_Ref_showSlave_286 : decode (jm_cod M_Ref_showSlave) 286 = .ok (.iconst 0, 1) := dt_Ref_showSlave 176
theorem d_Ref_showSlave_287 : decode (jm_cod M_Ref_showSlave) 287 = .ok (.bastore, 1) := dt_Ref_showSlave 177
theorem d_Ref_showSlave_288 : decode (jm_cod M_Ref_showSlave) 288 = .ok (.aload_n 0, 1) := dt_Ref_showSlave 178
theorem d_Ref_showSlave_289 : decode (jm_cod M_Ref_showSlave) 289 = .ok (.getfield 100, 3) := dt_Ref_showSlave 179
theorem d_Ref_showSlave_292 : decode (jm_cod M_Ref_showSlave) 292 = .ok (.iload_n 2, 1) := dt_Ref_showSlave 180
theorem d_Ref_showSlave_293 : decode (jm_cod M_Ref_showSlave) 293 = .ok (.iconst 2, 1) := dt_Ref_showSlave 181
theorem d_Ref_showSlave_294 : decode (jm_cod M_Ref_showSlave) 294 = .ok (.iadd, 1) := dt_Ref_showSlave 182
theorem d_Ref_showSlave_295 : decode (jm_cod M_Ref_showSlave) 295 = .ok (.baload, 1) := dt_Ref_showSlave 183
theorem d_Ref_showSlave_296 : decode (jm_cod M_Ref_showSlave) 296 = .ok (.ifCond .ne 50, 3) := dt_Ref_showSlave 184
theorem d_Ref_showSlave_299 : decode (jm_cod M_Ref_showSlave) 299 = .ok (.aload_n 0, 1) := dt_Ref_showSlave 185
theorem d_Ref_showSlave_300 : decode (jm_cod M_Ref_showSlave) 300 = .ok (.getfield 214, 3) := dt_Ref_showSlave 186
theorem d_Ref_showSlave_303 : decode (jm_cod M_Ref_showSlave) 303 = .ok (.iload_n 1, 1) := dt_Ref_showSlave 187
theorem d_Ref_showSlave_304 : decode (jm_cod M_Ref_showSlave) 304 = .ok (.aload_n 0, 1) := dt_Ref_showSlave 188
theorem d_Ref_showSlave_305 : decode (jm_cod M_Ref_showSlave) 305 = .ok (.iload_n 1, 1) := dt_Ref_showSlave 189
theorem d_Ref_showSlave_306 : decode (jm_cod M_Ref_showSlave) 306 = .ok (.invokevirtual 409, 3) := dt_Ref_showSlave 190
theorem d_Ref_showSlave_309 : decode (jm_cod M_Ref_showSlave) 309 = .ok (.iastore, 1) := dt_Ref_showSlave 191
theorem d_Ref_showSlave_310 : decode (jm_cod M_Ref_showSlave) 310 = .ok (.aload_n 0, 1) := dt_Ref_showSlave 192
theorem d_Ref_showSlave_311 : decode (jm_cod M_Ref_showSlave) 311 = .ok (.getfield 214, 3) := dt_Ref_showSlave 193
theorem d_Ref_showSlave_314 : decode (jm_cod M_Ref_showSlave) 314 = .ok (.iload_n 1, 1) := dt_Ref_showSlave 194
theorem d_Ref_showSlave_315 : decode (jm_cod M_Ref_showSlave) 315 = .ok (.aload_n 0, 1) := dt_Ref_showSlave 195
theorem d_Ref_showSlave_316 : decode (jm_cod M_Ref_showSlave) 316 = .ok (.getfield 16, 3) := dt_Ref_showSlave 196
theorem d_Ref_showSlave_319 : decode (jm_cod M_Ref_showSlave) 319 = .ok (.iconst 5, 1) := dt_Ref_showSlave 197
theorem d_Ref_showSlave_320 : decode (jm_cod M_Ref_showSlave) 320 = .ok (.iload_n 1, 1) := dt_Ref_showSlave 198
theorem d_Ref_showSlave_321 : decode (jm_cod M_Ref_showSlave) 321 = .ok (.imul, 1) := dt_Ref_showSlave 199
theorem d_Ref_showSlave_322 : decode (jm_cod M_Ref_showSlave) 322 = .ok (.iconst 2, 1) := dt_Ref_showSlave 200
theorem d_Ref_showSlave_323 : decode (jm_cod M_Ref_showSlave) 323 = .ok (.iadd, 1) := dt_Ref_showSlave 201
theorem d_Ref_showSlave_324 : decode (jm_cod M_Ref_showSlave) 324 = .ok (.iaload, 1) := dt_Ref_showSlave 202
theorem d_Ref_showSlave_325 : decode (jm_cod M_Ref_showSlave) 325 = .ok (.aload_n 0, 1) := dt_Ref_showSlave 203
theorem d_Ref_showSlave_326 : decode (jm_cod M_Ref_showSlave) 326 = .ok (.getfield 348, 3) := dt_Ref_showSlave 204
theorem d_Ref_showSlave_329 : decode (jm_cod M_Ref_showSlave) 329 = .ok (.invokestatic 351, 3) := dt_Ref_showSlave 205
theorem d_Ref_showSlave_332 : decode (jm_cod M_Ref_showSlave) 332 = .ok (.ifCond .eq 12, 3) := dt_Ref_showSlave 206
theorem d_Ref_showSlave_335 : decode (jm_cod M_Ref_showSlave) 335 = .ok (.aload_n 0, 1) := dt_Ref_showSlave 207
theorem d_Ref_showSlave_336 : decode (jm_cod M_Ref_showSlave) 336 = .ok (.getfield 214, 3) := dt_Ref_showSlave 208
theorem d_Ref_showSlave_339 : decode (jm_cod M_Ref_showSlave) 339 = .ok (.iload_n 1, 1) := dt_Ref_showSlave 209
theorem d_Ref_showSlave_340 : decode (jm_cod M_Ref_showSlave) 340 = .ok (.iaload, 1) := dt_Ref_showSlave 210
theorem d_Ref_showSlave_341 : decode (jm_cod M_Ref_showSlave) 341 = .ok (.goto 4, 3) := dt_Ref_showSlave 211
theorem d_Ref_showSlave_344 : decode (jm_cod M_Ref_showSlave) 344 = .ok (.iconst (-1), 1) := dt_Ref_showSlave 212
theorem d_Ref_showSlave_345 : decode (jm_cod M_Ref_showSlave) 345 = .ok (.iastore, 1) := dt_Ref_showSlave 213
theorem d_Ref_showSlave_346 : decode (jm_cod M_Ref_showSlave) 346 = .ok (.aload_n 0, 1) := dt_Ref_showSlave 214
theorem d_Ref_showSlave_347 : decode (jm_cod M_Ref_showSlave) 347 = .ok (.getfield 214, 3) := dt_Ref_showSlave 215
theorem d_Ref_showSlave_350 : decode (jm_cod M_Ref_showSlave) 350 = .ok (.iload_n 1, 1) := dt_Ref_showSlave 216
theorem d_Ref_showSlave_351 : decode (jm_cod M_Ref_showSlave) 351 = .ok (.iaload, 1) := dt_Ref_showSlave 217
theorem d_Ref_showSlave_352 : decode (jm_cod M_Ref_showSlave) 352 = .ok (.istore 4, 2) := dt_Ref_showSlave 218
theorem d_Ref_showSlave_354 : decode (jm_cod M_Ref_showSlave) 354 = .ok (.aload_n 0, 1) := dt_Ref_showSlave 219
theorem d_Ref_showSlave_355 : decode (jm_cod M_Ref_showSlave) 355 = .ok (.iload_n 2, 1) := dt_Ref_showSlave 220
theorem d_Ref_showSlave_356 : decode (jm_cod M_Ref_showSlave) 356 = .ok (.iconst 2, 1) := dt_Ref_showSlave 221
theorem d_Ref_showSlave_357 : decode (jm_cod M_Ref_showSlave) 357 = .ok (.iadd, 1) := dt_Ref_showSlave 222
theorem d_Ref_showSlave_358 : decode (jm_cod M_Ref_showSlave) 358 = .ok (.iload 4, 2) := dt_Ref_showSlave 223
theorem d_Ref_showSlave_360 : decode (jm_cod M_Ref_showSlave) 360 = .ok (.iconst (-1), 1) := dt_Ref_showSlave 224
theorem d_Ref_showSlave_361 : decode (jm_cod M_Ref_showSlave) 361 = .ok (.if_icmp .eq 7, 3) := dt_Ref_showSlave 225
theorem d_Ref_showSlave_364 : decode (jm_cod M_Ref_showSlave) 364 = .ok (.iconst 1, 1) := dt_Ref_showSlave 226
theorem d_Ref_showSlave_365 : decode (jm_cod M_Ref_showSlave) 365 = .ok (.goto 4, 3) := dt_Ref_showSlave 227
theorem d_Ref_showSlave_368 : decode (jm_cod M_Ref_showSlave) 368 = .ok (.iconst 0, 1) := dt_Ref_showSlave 228
theorem d_Ref_showSlave_369 : decode (jm_cod M_Ref_showSlave) 369 = .ok (.lconst 0, 1) := dt_Ref_showSlave 229
theorem d_Ref_showSlave_370 : decode (jm_cod M_Ref_showSlave) 370 = .ok (.iload 4, 2) := dt_Ref_showSlave 230
theorem d_Ref_showSlave_372 : decode (jm_cod M_Ref_showSlave) 372 = .ok (.iconst (-1), 1) := dt_Ref_showSlave 231
theorem d_Ref_showSlave_373 : decode (jm_cod M_Ref_showSlave) 373 = .ok (.if_icmp .ne 7, 3) := dt_Ref_showSlave 232
theorem d_Ref_showSlave_376 : decode (jm_cod M_Ref_showSlave) 376 = .ok (.iconst 0, 1) := dt_Ref_showSlave 233
theorem d_Ref_showSlave_377 : decode (jm_cod M_Ref_showSlave) 377 = .ok (.goto 24, 3) := dt_Ref_showSlave 234
theorem d_Ref_showSlave_380 : decode (jm_cod M_Ref_showSlave) 380 = .ok (.aload_n 0, 1) := dt_Ref_showSlave 235
theorem d_Ref_showSlave_381 : decode (jm_cod M_Ref_showSlave) 381 = .ok (.getfield 163, 3) := dt_Ref_showSlave 236
theorem d_Ref_showSlave_384 : decode (jm_cod M_Ref_showSlave) 384 = .ok (.iload 4, 2) := dt_Ref_showSlave 237
theorem d_Ref_showSlave_386 : decode (jm_cod M_Ref_showSlave) 386 = .ok (.laload, 1) := dt_Ref_showSlave 238
theorem d_Ref_showSlave_387 : decode (jm_cod M_Ref_showSlave) 387 = .ok (.invokestatic 396, 3) := dt_Ref_showSlave 239
theorem d_Ref_showSlave_390 : decode (jm_cod M_Ref_showSlave) 390 = .ok (.bipush 64, 2) := dt_Ref_showSlave 240
theorem d_Ref_showSlave_392 : decode (jm_cod M_Ref_showSlave) 392 = .ok (.aload_n 0, 1) := dt_Ref_showSlave 241
theorem d_Ref_showSlave_393 : decode (jm_cod M_Ref_showSlave) 393 = .ok (.getfield 172, 3) := dt_Ref_showSlave 242
theorem d_Ref_showSlave_396 : decode (jm_cod M_Ref_showSlave) 396 = .ok (.iload 4, 2) := dt_Ref_showSlave 243
theorem d_Ref_showSlave_398 : decode (jm_cod M_Ref_showSlave) 398 = .ok (.iaload, 1) := dt_Ref_showSlave 244
theorem d_Ref_showSlave_399 : decode (jm_cod M_Ref_showSlave) 399 = .ok (.imul, 1) := dt_Ref_showSlave 245
theorem d_Ref_showSlave_400 : decode (jm_cod M_Ref_showSlave) 400 = .ok (.iadd, 1) := dt_Ref_showSlave 246
theorem d_Ref_showSlave_401 : decode (jm_cod M_Ref_showSlave) 401 = .ok (.invokevirtual 359, 3) := dt_Ref_showSlave 247
theorem d_Ref_showSlave_404 : decode (jm_cod M_Ref_showSlave) 404 = .ok (.aload_n 0, 1) := dt_Ref_showSlave 248
theorem d_Ref_showSlave_405 : decode (jm_cod M_Ref_showSlave) 405 = .ok (.getfield 100, 3) := dt_Ref_showSlave 249
theorem d_Ref_showSlave_408 : decode (jm_cod M_Ref_showSlave) 408 = .ok (.iload_n 2, 1) := dt_Ref_showSlave 250
theorem d_Ref_showSlave_409 : decode (jm_cod M_Ref_showSlave) 409 = .ok (.iconst 4, 1) := dt_Ref_showSlave 251
theorem d_Ref_showSlave_410 : decode (jm_cod M_Ref_showSlave) 410 = .ok (.iadd, 1) := dt_Ref_showSlave 252
theorem d_Ref_showSlave_411 : decode (jm_cod M_Ref_showSlave) 411 = .ok (.baload, 1) := dt_Ref_showSlave 253
theorem d_Ref_showSlave_412 : decode (jm_cod M_Ref_showSlave) 412 = .ok (.ifCond .ne 50, 3) := dt_Ref_showSlave 254
theorem d_Ref_showSlave_415 : decode (jm_cod M_Ref_showSlave) 415 = .ok (.aload_n 0, 1) := dt_Ref_showSlave 255
theorem d_Ref_showSlave_416 : decode (jm_cod M_Ref_showSlave) 416 = .ok (.getfield 217, 3) := dt_Ref_showSlave 256
theorem d_Ref_showSlave_419 : decode (jm_cod M_Ref_showSlave) 419 = .ok (.iload_n 1, 1) := dt_Ref_showSlave 257
theorem d_Ref_showSlave_420 : decode (jm_cod M_Ref_showSlave) 420 = .ok (.aload_n 0, 1) := dt_Ref_showSlave 258
theorem d_Ref_showSlave_421 : decode (jm_cod M_Ref_showSlave) 421 = .ok (.iload_n 1, 1) := dt_Ref_showSlave 259
theorem d_Ref_showSlave_422 : decode (jm_cod M_Ref_showSlave) 422 = .ok (.invokevirtual 412, 3) := dt_Ref_showSlave 260
theorem d_Ref_showSlave_425 : decode (jm_cod M_Ref_showSlave) 425 = .ok (.iastore, 1) := dt_Ref_showSlave 261
theorem d_Ref_showSlave_426 : decode (jm_cod M_Ref_showSlave) 426 = .ok (.aload_n 0, 1) := dt_Ref_showSlave 262
theorem d_Ref_showSlave_427 : decode (jm_cod M_Ref_showSlave) 427 = .ok (.getfield 217, 3) := dt_Ref_showSlave 263
theorem d_Ref_showSlave_430 : decode (jm_cod M_Ref_showSlave) 430 = .ok (.iload_n 1, 1) := dt_Ref_showSlave 264
theorem d_Ref_showSlave_431 : decode (jm_cod M_Ref_showSlave) 431 = .ok (.aload_n 0, 1) := dt_Ref_showSlave 265
theorem d_Ref_showSlave_432 : decode (jm_cod M_Ref_showSlave) 432 = .ok (.getfield 16, 3) := dt_Ref_showSlave 266
theorem d_Ref_showSlave_435 : decode (jm_cod M_Ref_showSlave) 435 = .ok (.iconst 5, 1) := dt_Ref_showSlave 267
theorem d_Ref_showSlave_436 : decode (jm_cod M_Ref_showSlave) 436 = .ok (.iload_n 1, 1) := dt_Ref_showSlave 268
theorem d_Ref_showSlave_437 : decode (jm_cod M_Ref_showSlave) 437 = .ok (.imul, 1) := dt_Ref_showSlave 269
theorem d_Ref_showSlave_438 : decode (jm_cod M_Ref_showSlave) 438 = .ok (.iconst 4, 1) := dt_Ref_showSlave 270
theorem d_Ref_showSlave_439 : decode (jm_cod M_Ref_showSlave) 439 = .ok (.iadd, 1) := dt_Ref_showSlave 271
theorem d_Ref_showSlave_440 : decode (jm_cod M_Ref_showSlave) 440 = .ok (.iaload, 1) := dt_Ref_showSlave 272
theorem d_Ref_showSlave_441 : decode (jm_cod M_Ref_showSlave) 441 = .ok (.aload_n 0, 1) := dt_Ref_showSlave 273
theorem d_Ref_showSlave_442 : decode (jm_cod M_Ref_showSlave) 442 = .ok (.getfield 348, 3) := dt_Ref_showSlave 274
theorem d_Ref_showSlave_445 : decode (jm_cod M_Ref_showSlave) 445 = .ok (.invokestatic 351, 3) := dt_Ref_showSlave 275
theorem d_Ref_showSlave_448 : decode (jm_cod M_Ref_showSlave) 448 = .ok (.ifCond .eq 12, 3) := dt_Ref_showSlave 276
theorem d_Ref_showSlave_451 : decode (jm_cod M_Ref_showSlave) 451 = .ok (.aload_n 0, 1) := dt_Ref_showSlave 277
theorem d_Ref_showSlave_452 : decode (jm_cod M_Ref_showSlave) 452 = .ok (.getfield 217, 3) := dt_Ref_showSlave 278
theorem d_Ref_showSlave_455 : decode (jm_cod M_Ref_showSlave) 455 = .ok (.iload_n 1, 1) := dt_Ref_showSlave 279
theorem d_Ref_showSlave_456 : decode (jm_cod M_Ref_showSlave) 456 = .ok (.iaload, 1) := dt_Ref_showSlave 280
theorem d_Ref_showSlave_457 : decode (jm_cod M_Ref_showSlave) 457 = .ok (.goto 4, 3) := dt_Ref_showSlave 281
theorem d_Ref_showSlave_460 : decode (jm_cod M_Ref_showSlave) 460 = .ok (.iconst (-1), 1) := dt_Ref_showSlave 282
theorem d_Ref_showSlave_461 : decode (jm_cod M_Ref_showSlave) 461 = .ok (.iastore, 1) := dt_Ref_showSlave 283
theorem d_Ref_showSlave_462 : decode (jm_cod M_Ref_showSlave) 462 = .ok (.aload_n 0, 1) := dt_Ref_showSlave 284
theorem d_Ref_showSlave_463 : decode (jm_cod M_Ref_showSlave) 463 = .ok (.getfield 217, 3) := dt_Ref_showSlave 285
theorem d_Ref_showSlave_466 : decode (jm_cod M_Ref_showSlave) 466 = .ok (.iload_n 1, 1) := dt_Ref_showSlave 286
theorem d_Ref_showSlave_467 : decode (jm_cod M_Ref_showSlave) 467 = .ok (.iaload, 1) := dt_Ref_showSlave 287
theorem d_Ref_showSlave_468 : decode (jm_cod M_Ref_showSlave) 468 = .ok (.istore 5, 2) := dt_Ref_showSlave 288
theorem d_Ref_showSlave_470 : decode (jm_cod M_Ref_showSlave) 470 = .ok (.iload 5, 2) := dt_Ref_showSlave 289
theorem d_Ref_showSlave_472 : decode (jm_cod M_Ref_showSlave) 472 = .ok (.iconst (-1), 1) := dt_Ref_showSlave 290
theorem d_Ref_showSlave_473 : decode (jm_cod M_Ref_showSlave) 473 = .ok (.if_icmp .ne 14, 3) := dt_Ref_showSlave 291
theorem d_Ref_showSlave_476 : decode (jm_cod M_Ref_showSlave) 476 = .ok (.aload_n 0, 1) := dt_Ref_showSlave 292
theorem d_Ref_showSlave_477 : decode (jm_cod M_Ref_showSlave) 477 = .ok (.iload_n 2, 1) := dt_Ref_showSlave 293
theorem d_Ref_showSlave_478 : decode (jm_cod M_Ref_showSlave) 478 = .ok (.iconst 4, 1) := dt_Ref_showSlave 294
theorem d_Ref_showSlave_479 : decode (jm_cod M_Ref_showSlave) 479 = .ok (.iadd, 1) := dt_Ref_showSlave 295
theorem d_Ref_showSlave_480 : decode (jm_cod M_Ref_showSlave) 480 = .ok (.iconst 0, 1) := dt_Ref_showSlave 296
theorem d_Ref_showSlave_481 : decode (jm_cod M_Ref_showSlave) 481 = .ok (.lconst 0, 1) := dt_Ref_showSlave 297
theorem d_Ref_showSlave_482 : decode (jm_cod M_Ref_showSlave) 482 = .ok (.iconst 0, 1) := dt_Ref_showSlave 298
theorem d_Ref_showSlave_483 : decode (jm_cod M_Ref_showSlave) 483 = .ok (.invokevirtual 359, 3) := dt_Ref_showSlave 299
theorem d_Ref_showSlave_486 : decode (jm_cod M_Ref_showSlave) 486 = .ok (.return_, 1) := dt_Ref_showSlave 300
theorem d_Ref_showSlave_487 : decode (jm_cod M_Ref_showSlave) 487 = .ok (.aload_n 0, 1) := dt_Ref_showSlave 301
theorem d_Ref_showSlave_488 : decode (jm_cod M_Ref_showSlave) 488 = .ok (.getfield 193, 3) := dt_Ref_showSlave 302
theorem d_Ref_showSlave_491 : decode (jm_cod M_Ref_showSlave) 491 = .ok (.iload 5, 2) := dt_Ref_showSlave 303
theorem d_Ref_showSlave_493 : decode (jm_cod M_Ref_showSlave) 493 = .ok (.iaload, 1) := dt_Ref_showSlave 304
theorem d_Ref_showSlave_494 : decode (jm_cod M_Ref_showSlave) 494 = .ok (.istore 6, 2) := dt_Ref_showSlave 305
theorem d_Ref_showSlave_496 : decode (jm_cod M_Ref_showSlave) 496 = .ok (.iload 6, 2) := dt_Ref_showSlave 306
theorem d_Ref_showSlave_498 : decode (jm_cod M_Ref_showSlave) 498 = .ok (.aload_n 0, 1) := dt_Ref_showSlave 307
theorem d_Ref_showSlave_499 : decode (jm_cod M_Ref_showSlave) 499 = .ok (.getfield 190, 3) := dt_Ref_showSlave 308
theorem d_Ref_showSlave_502 : decode (jm_cod M_Ref_showSlave) 502 = .ok (.iload 5, 2) := dt_Ref_showSlave 309
theorem d_Ref_showSlave_504 : decode (jm_cod M_Ref_showSlave) 504 = .ok (.laload, 1) := dt_Ref_showSlave 310
theorem d_Ref_showSlave_505 : decode (jm_cod M_Ref_showSlave) 505 = .ok (.invokestatic 321, 3) := dt_Ref_showSlave 311
theorem d_Ref_showSlave_508 : decode (jm_cod M_Ref_showSlave) 508 = .ok (.iconst 1, 1) := dt_Ref_showSlave 312
theorem d_Ref_showSlave_509 : decode (jm_cod M_Ref_showSlave) 509 = .ok (.isub, 1) := dt_Ref_showSlave 313
theorem d_Ref_showSlave_510 : decode (jm_cod M_Ref_showSlave) 510 = .ok (.if_icmp .ne 7, 3) := dt_Ref_showSlave 314
theorem d_Ref_showSlave_513 : decode (jm_cod M_Ref_showSlave) 513 = .ok (.iconst 1, 1) := dt_Ref_showSlave 315
theorem d_Ref_showSlave_514 : decode (jm_cod M_Ref_showSlave) 514 = .ok (.goto 4, 3) := dt_Ref_showSlave 316
theorem d_Ref_showSlave_517 : decode (jm_cod M_Ref_showSlave) 517 = .ok (.iconst 0, 1) := dt_Ref_showSlave 317
theorem d_Ref_showSlave_518 : decode (jm_cod M_Ref_showSlave) 518 = .ok (.istore 7, 2) := dt_Ref_showSlave 318
theorem d_Ref_showSlave_520 : decode (jm_cod M_Ref_showSlave) 520 = .ok (.aload_n 0, 1) := dt_Ref_showSlave 319
theorem d_Ref_showSlave_521 : decode (jm_cod M_Ref_showSlave) 521 = .ok (.iload_n 2, 1) := dt_Ref_showSlave 320
theorem d_Ref_showSlave_522 : decode (jm_cod M_Ref_showSlave) 522 = .ok (.iconst 4, 1) := dt_Ref_showSlave 321
theorem d_Ref_showSlave_523 : decode (jm_cod M_Ref_showSlave) 523 = .ok (.iadd, 1) := dt_Ref_showSlave 322
theorem d_Ref_showSlave_524 : decode (jm_cod M_Ref_showSlave) 524 = .ok (.iconst 1, 1) := dt_Ref_showSlave 323
theorem d_Ref_showSlave_525 : decode (jm_cod M_Ref_showSlave) 525 = .ok (.aload_n 0, 1) := dt_Ref_showSlave 324
theorem d_Ref_showSlave_526 : decode (jm_cod M_Ref_showSlave) 526 = .ok (.getfield 202, 3) := dt_Ref_showSlave 325
theorem d_Ref_showSlave_529 : decode (jm_cod M_Ref_showSlave) 529 = .ok (.bipush 16, 2) := dt_Ref_showSlave 326
theorem d_Ref_showSlave_531 : decode (jm_cod M_Ref_showSlave) 531 = .ok (.iload 5, 2) := dt_Ref_showSlave 327
theorem d_Ref_showSlave_533 : decode (jm_cod M_Ref_showSlave) 533 = .ok (.imul, 1) := dt_Ref_showSlave 328
theorem d_Ref_showSlave_534 : decode (jm_cod M_Ref_showSlave) 534 = .ok (.iload 6, 2) := dt_Ref_showSlave 329
theorem d_Ref_showSlave_536 : decode (jm_cod M_Ref_showSlave) 536 = .ok (.iadd, 1) := dt_Ref_showSlave 330
theorem d_Ref_showSlave_537 : decode (jm_cod M_Ref_showSlave) 537 = .ok (.laload, 1) := dt_Ref_showSlave 331
theorem d_Ref_showSlave_538 : decode (jm_cod M_Ref_showSlave) 538 = .ok (.aload_n 0, 1) := dt_Ref_showSlave 332
theorem d_Ref_showSlave_539 : decode (jm_cod M_Ref_showSlave) 539 = .ok (.getfield 190, 3) := dt_Ref_showSlave 333
theorem d_Ref_showSlave_542 : decode (jm_cod M_Ref_showSlave) 542 = .ok (.iload 5, 2) := dt_Ref_showSlave 334
theorem d_Ref_showSlave_544 : decode (jm_cod M_Ref_showSlave) 544 = .ok (.laload, 1) := dt_Ref_showSlave 335
theorem d_Ref_showSlave_545 : decode (jm_cod M_Ref_showSlave) 545 = .ok (.invokestatic 396, 3) := dt_Ref_showSlave 336
theorem d_Ref_showSlave_548 : decode (jm_cod M_Ref_showSlave) 548 = .ok (.bipush 64, 2) := dt_Ref_showSlave 337
theorem d_Ref_showSlave_550 : decode (jm_cod M_Ref_showSlave) 550 = .ok (.aload_n 0, 1) := dt_Ref_showSlave 338
theorem d_Ref_showSlave_551 : decode (jm_cod M_Ref_showSlave) 551 = .ok (.getfield 205, 3) := dt_Ref_showSlave 339
theorem d_Ref_showSlave_554 : decode (jm_cod M_Ref_showSlave) 554 = .ok (.bipush 16, 2) := dt_Ref_showSlave 340
theorem d_Ref_showSlave_556 : decode (jm_cod M_Ref_showSlave) 556 = .ok (.iload 5, 2) := dt_Ref_showSlave 341
theorem d_Ref_showSlave_558 : decode (jm_cod M_Ref_showSlave) 558 = .ok (.imul, 1) := dt_Ref_showSlave 342
theorem d_Ref_showSlave_559 : decode (jm_cod M_Ref_showSlave) 559 = .ok (.iload 6, 2) := dt_Ref_showSlave 343
theorem d_Ref_showSlave_561 : decode (jm_cod M_Ref_showSlave) 561 = .ok (.iadd, 1) := dt_Ref_showSlave 344
theorem d_Ref_showSlave_562 : decode (jm_cod M_Ref_showSlave) 562 = .ok (.iaload, 1) := dt_Ref_showSlave 345
theorem d_Ref_showSlave_563 : decode (jm_cod M_Ref_showSlave) 563 = .ok (.imul, 1) := dt_Ref_showSlave 346
theorem d_Ref_showSlave_564 : decode (jm_cod M_Ref_showSlave) 564 = .ok (.iadd, 1) := dt_Ref_showSlave 347
theorem d_Ref_showSlave_565 : decode (jm_cod M_Ref_showSlave) 565 = .ok (.iload 7, 2) := dt_Ref_showSlave 348
theorem d_Ref_showSlave_567 : decode (jm_cod M_Ref_showSlave) 567 = .ok (.ifCond .eq 9, 3) := dt_Ref_showSlave 349
theorem d_Ref_showSlave_570 : decode (jm_cod M_Ref_showSlave) 570 = .ok (.sipush 256, 3) := dt_Ref_showSlave 350
theorem d_Ref_showSlave_573 : decode (jm_cod M_Ref_showSlave) 573 = .ok (.goto 4, 3) := dt_Ref_showSlave 351
theorem d_Ref_showSlave_576 : decode (jm_cod M_Ref_showSlave) 576 = .ok (.iconst 0, 1) := dt_Ref_showSlave 352
theorem d_Ref_showSlave_577 : decode (jm_cod M_Ref_showSlave) 577 = .ok (.iadd, 1) := dt_Ref_showSlave 353
theorem d_Ref_showSlave_578 : decode (jm_cod M_Ref_showSlave) 578 = .ok (.invokevirtual 359, 3) := dt_Ref_showSlave 354
theorem d_Ref_showSlave_581 : decode (jm_cod M_Ref_showSlave) 581 = .ok (.return_, 1) := dt_Ref_showSlave 355
def tab_Ref_chooseWrite : List (Nat × Instr × Nat) := [(0, .iconst (-1), 1), (1, .istore_n 2, 1), (2, .iconst 0, 1), (3, .istore_n 3, 1), (4, .iload_n 3, 1), (5, .aload_n 0, 1), (6, .getfield 154, 3), (9, .iload_n 1, 1), (10, .iaload, 1), (11, .if_icmp .ge 76, 3), (14, .aload_n 0, 1), (15, .getfield 157, 3), (18, .iconst 4, 1), (19, .iload_n 1, 1), (20, .imul, 1), (21, .iload_n 3, 1), (22, .iadd, 1), (23, .iaload, 1), (24, .istore 4, 2), (26, .aload_n 0, 1), (27, .iload 4, 2), (29, .iload_n 1, 1), (30, .invokevirtual 399, 3), (33, .ifCond .eq 33, 3), (36, .aload_n 0, 1), (37, .getfield 26, 3), (40, .iload_n 1, 1), (41, .iaload, 1), (42, .ifCond .ne 10, 3), (45, .iload_n 3, 1), (46, .ifCond .ne 20, 3), (49, .goto 13, 3), (52, .aload_n 0, 1), (53, .iload_n 1, 1), (54, .iload_n 3, 1), (55, .iconst 1, 1), (56, .invokevirtual 402, 3), (59, .ifCond .eq 7, 3), (62, .iconst 1, 1), (63, .goto 4, 3), (66, .iconst 0, 1), (67, .istore 5, 2), (69, .iload 5, 2), (71, .ifCond .eq 8, 3), (74, .iload 4, 2), (76, .goto 4, 3), (79, .iload_n 2, 1), (80, .istore_n 2, 1), (81, .iinc 3 1, 3), (84, .goto (-80), 3), (87, .iload_n 2, 1), (88, .ireturn, 1)]
theorem dt_Ref_chooseWrite (i : Nat) : decode (jm_cod M_Ref_chooseWrite) (tab_Ref_chooseWrite.getD i (0, .iconst (-1), 1)).1 = .ok ((tab_Ref_chooseWrite.getD i (0, .iconst (-1), 1)).2.1, (tab_Ref_chooseWrite.getD i (0, .iconst (-1), 1)).2.2) := j_tab (by decide +kernel) i
theorem d_Ref_chooseWrite_0 : decode (jm_cod M_Ref_chooseWrite) 0 = .ok (.iconst (-1), 1) := dt_Ref_chooseWrite 0
theorem d_Ref_chooseWrite_1 : decode (jm_cod M_Ref_chooseWrite) 1 = .ok (.istore_n 2, 1) := dt_Ref_chooseWrite 1
theorem d_Ref_chooseWrite_2 : decode (jm_cod M_Ref_chooseWrite) 2 = .ok (.iconst 0, 1) := dt_Ref_chooseWrite 2
theorem d_Ref_chooseWrite_3 : decode (jm_cod M_Ref_chooseWrite) 3 = .ok (.istore_n 3, 1) := dt_Ref_chooseWrite 3
theorem d_Ref_chooseWrite_4 : decode (jm_cod M_Ref_chooseWrite) 4 = .ok (.iload_n 3, 1) := dt_Ref_chooseWrite 4
theorem d_Ref_chooseWrite_5 : decode (jm_cod M_Ref_chooseWrite) 5 = .ok (.aload_n 0, 1) := dt_Ref_chooseWrite 5
theorem d_Ref_chooseWrite_6 : decode (jm_cod M_Ref_chooseWrite) 6 = .ok (.getfield 154, 3) := dt_Ref_chooseWrite 6
theorem d_Ref_chooseWrite_9 : decode (jm_cod M_Ref_chooseWrite) 9 = .ok (.iload_n 1, 1) := dt_Ref_chooseWrite 7
theorem d_Ref_chooseWrite_10 : decode (jm_cod M_Ref_chooseWrite) 10 = .ok (.iaload, 1) := dt_Ref_chooseWrite 8
theorem d_Ref_chooseWrite_11 : decode (jm_cod M_Ref_chooseWrite) 11 = .ok (.if_icmp .ge 76, 3) := dt_Ref_chooseWrite 9
theorem d_Ref_chooseWrite_14 : decode (jm_cod M_Ref_chooseWrite) 14 = .ok (.aload_n 0, 1) := dt_Ref_chooseWrite 10
theorem d_Ref_chooseWrite_15 : decode (jm_cod M_Ref_chooseWrite) 15 = .ok (.getfield 157, 3) := dt_Ref_chooseWrite 11
theorem d_Ref_chooseWrite_18 : decode (jm_cod M_Ref_chooseWrite) 18 = .ok (.iconst 4, 1) := dt_Ref_chooseWrite 12
theorem d_Ref_chooseWrite_19 : decode (jm_cod M_Ref_chooseWrite) 19 = .ok (.iload_n 1, 1) := dt_Ref_chooseWrite 13
theorem d_Ref_chooseWrite_20 : decode (jm_cod M_Ref_chooseWrite) 20 = .ok (.imul, 1) := dt_Ref_chooseWrite 14
theorem d_Ref_chooseWrite_21 : decode (jm_cod M_Ref_chooseWrite) 21 = .ok (.iload_n 3, 1) := dt_Ref_chooseWrite 15
theorem d_Ref_chooseWrite_22 : decode (jm_cod M_Ref_chooseWrite) 22 = .ok (.iadd, 1) := dt_Ref_chooseWrite 16
theorem d_Ref_chooseWrite_23 : decode (jm_cod M_Ref_chooseWrite) 23 = .ok (.iaload, 1) := dt_Ref_chooseWrite 17
theorem d_Ref_chooseWrite_24 : decode (jm_cod M_Ref_chooseWrite) 24 = .ok (.istore 4, 2) := dt_Ref_chooseWrite 18
theorem d_Ref_chooseWrite_26 : decode (jm_cod M_Ref_chooseWrite) 26 = .ok (.aload_n 0, 1) := dt_Ref_chooseWrite 19
theorem d_Ref_chooseWrite_27 : decode (jm_cod M_Ref_chooseWrite) 27 = .ok (.iload 4, 2) := dt_Ref_chooseWrite 20
theorem d_Ref_chooseWrite_29 : decode (jm_cod M_Ref_chooseWrite) 29 = .ok (.iload_n 1, 1) := dt_Ref_chooseWrite 21
theorem d_Ref_chooseWrite_30 : decode (jm_cod M_Ref_chooseWrite) 30 = .ok (.invokevirtual 399, 3) := dt_Ref_chooseWrite 22
theorem d_Ref_chooseWrite_33 : decode (jm_cod M_Ref_chooseWrite) 33 = .ok (.ifCond .eq 33, 3) := dt_Ref_chooseWrite 23
theorem d_Ref_chooseWrite_36 : decode (jm_cod M_Ref_chooseWrite) 36 = .ok (.aload_n 0, 1) := dt_Ref_chooseWrite 24
theorem d_Ref_chooseWrite_37 : decode (jm_cod M_Ref_chooseWrite) 37 = .ok (.getfield 26, 3) := dt_Ref_chooseWrite 25
theorem d_Ref_chooseWrite_40 : decode (jm_cod M_Ref_chooseWrite) 40 = .ok (.iload_n 1, 1) := dt_Ref_chooseWrite 26
theorem d_Ref_chooseWrite_41 : decode (jm_cod M_Ref_chooseWrite) 41 = .ok (.iaload, 1) := dt_Ref_chooseWrite 27
theorem d_Ref_chooseWrite_42 : decode (jm_cod M_Ref_chooseWrite) 42 = .ok (.ifCond .ne 10, 3) := dt_Ref_chooseWrite 28
theorem d_Ref_chooseWrite_45 : decode (jm_cod M_Ref_chooseWrite) 45 = .ok (.iload_n 3, 1) := dt_Ref_chooseWrite 29
theorem d_Ref_chooseWrite_46 : decode (jm_cod M_Ref_chooseWrite) 46 = .ok (.ifCond .ne 20, 3) := dt_Ref_chooseWrite 30
theorem d_Ref_chooseWrite_49 : decode (jm_cod M_Ref_chooseWrite) 49 = .ok (.goto 13, 3) := dt_Ref_chooseWrite 31
theorem d_Ref_chooseWrite_52 : decode (jm_cod M_Ref_chooseWrite) 52 = .ok (.aload_n 0, 1) := dt_Ref_chooseWrite 32
theorem d_Ref_chooseWrite_53 : decode (jm_cod M_Ref_chooseWrite) 53 = .ok (.iload_n 1, 1) := dt_Ref_chooseWrite 33
theorem d_Ref_chooseWrite_54 : decode (jm_cod M_Ref_chooseWrite) 54 = .ok (.iload_n 3, 1) := dt_Ref_chooseWrite 34
theorem d_Ref_chooseWrite_55 : decode (jm_cod M_Ref_chooseWrite) 55 = .ok (.iconst 1, 1) := dt_Ref_chooseWrite 35
theorem d_Ref_chooseWrite_56 : decode (jm_cod M_Ref_chooseWrite) 56 = .ok (.invokevirtual 402, 3) := dt_Ref_chooseWrite 36
theorem d_Ref_chooseWrite_59 : decode (jm_cod M_Ref_chooseWrite) 59 = .ok (.ifCond .eq 7, 3) := dt_Ref_chooseWrite 37
theorem d_Ref_chooseWrite_62 : decode (jm_cod M_Ref_chooseWrite) 62 = .ok (.iconst 1, 1) := dt_Ref_chooseWrite 38
theorem d_Ref_chooseWrite_63 : decode (jm_cod M_Ref_chooseWrite) 63 = .ok (.goto 4, 3) := dt_Ref_chooseWrite 39
theorem d_Ref_chooseWrite_66 : decode (jm_cod M_Ref_chooseWrite) 66 = .ok (.iconst 0, 1) := dt_Ref_chooseWrite 40
theorem d_Ref_chooseWrite_67 : decode (jm_cod M_Ref_chooseWrite) 67 = .ok (.istore 5, 2) := dt_Ref_chooseWrite 41
theorem d_Ref_chooseWrite_69 : decode (jm_cod M_Ref_chooseWrite) 69 = .ok (.iload 5, 2) := dt_Ref_chooseWrite 42
theorem d_Ref_chooseWrite_71 : decode (jm_cod M_Ref_chooseWrite) 71 = .ok (.ifCond .eq 8, 3) := dt_Ref_chooseWrite 43
theorem d_Ref_chooseWrite_74 : decode (jm_cod M_Ref_chooseWrite) 74 = .ok (.iload 4, 2) := dt_Ref_chooseWrite 44
theorem d_Ref_chooseWrite_76 : decode (jm_cod M_Ref_chooseWrite) 76 = .ok (.goto 4, 3) := dt_Ref_chooseWrite 45
theorem d_Ref_chooseWrite_79 : decode (jm_cod M_Ref_chooseWrite) 79 = .ok (.iload_n 2, 1) := dt_Ref_chooseWrite 46
theorem d_Ref_chooseWrite_80 : decode (jm_cod M_Ref_chooseWrite) 80 = .ok (.istore_n 2, 1) := dt_Ref_chooseWrite 47
theorem d_Ref_chooseWrite_81 : decode (jm_cod M_Ref_chooseWrite) 81 = .ok (.iinc 3 1, 3) := dt_Ref_chooseWrite 48
theorem d_Ref_chooseWrite_84 : decode (jm_cod M_Ref_chooseWrite) 84 = .ok (.goto (-80), 3) := dt_Ref_chooseWrite 49
theorem d_Ref_chooseWrite_87 : decode (jm_cod M_Ref_chooseWrite) 87 = .ok (.iload_n 2, 1) := dt_Ref_chooseWrite 50
theorem d_Ref_chooseWrite_88 : decode (jm_cod M_Ref_chooseWrite) 88 = .ok (.ireturn, 1) := dt_Ref_chooseWrite 51
def tab_Ref_isWriteRipe : List (Nat × Instr × Nat) := [(0, .aload_n 0, 1), (1, .getfield 169, 3), (4, .iload_n 1, 1), (5, .iaload, 1), (6, .iconst (-1), 1), (7, .if_icmp .eq 29, 3), (10, .aload_n 0, 1), (11, .getfield 348, 3), (14, .aload_n 0, 1), (15, .getfield 169, 3), (18, .iload_n 1, 1), (19, .iaload, 1), (20, .aload_n 0, 1), (21, .getfield 23, 3), (24, .iload_n 2, 1), (25, .iaload, 1), (26, .iadd, 1), (27, .iconst 1, 1), (28, .iadd, 1), (29, .if_icmp .lt 7, 3), (32, .iconst 1, 1), (33, .goto 4, 3), (36, .iconst 0, 1), (37, .ireturn, 1)]
theorem dt_Ref_isWriteRipe (i : Nat) : decode (jm_cod M_Ref_isWriteRipe) (tab_Ref_isWriteRipe.getD i (0, .aload_n 0, 1)).1 = .ok ((tab_Ref_isWriteRipe.getD i (0, .aload_n 0, 1)).2.1, (tab_Ref_isWriteRipe.getD i (0, .aload_n 0, 1)).2.2) := j_tab (by decide +kernel) i
theorem d_Ref_isWriteRipe_0 : decode (jm_cod M_Ref_isWriteRipe) 0 = .ok (.aload_n 0, 1) := dt_Ref_isWriteRipe 0
theorem d_Ref_isWriteRipe_1 : decode (jm_cod M_Ref_isWriteRipe) 1 = .ok (.getfield 169, 3) := dt_Ref_isWriteRipe 1
theorem d_Ref_isWriteRipe_4 : decode (jm_cod M_Ref_isWriteRipe) 4 = .ok (.iload_n 1, 1) := dt_Ref_isWriteRipe 2
theorem d_Ref_isWriteRipe_5 : decode (jm_cod M_Ref_isWriteRipe) 5 = .ok (.iaload, 1) := dt_Ref_isWriteRipe 3
theorem d_Ref_isWriteRipe_6 : decode (jm_cod M_Ref_isWriteRipe) 6 = .ok (.iconst (-1), 1) := dt_Ref_isWriteRipe 4
theorem d_Ref_isWriteRipe_7 : decode (jm_cod M_Ref_isWriteRipe) 7 = .ok (.if_icmp .eq 29, 3) := dt_Ref_isWriteRipe 5
theorem d_Ref_isWriteRipe_10 : decode (jm_cod M_Ref_isWriteRipe) 10 = .ok (.aload_n 0, 1) := dt_Ref_isWriteRipe 6
theorem d_Ref_isWriteRipe_11 : decode (jm_cod M_Ref_isWriteRipe) 11 = .ok (.getfield 348, 3) := dt_Ref_isWriteRipe 7
theorem d_Ref_isWriteRipe_14 : decode (jm_cod M_Ref_isWriteRipe) 14 = .ok (.aload_n 0, 1) := dt_Ref_isWriteRipe 8
theorem d_Ref_isWriteRipe_15 : decode (jm_cod M_Ref_isWriteRipe) 15 = .ok (.getfield 169, 3) := dt_Ref_isWriteRipe 9
theorem d_Ref_isWriteRipe_18 : decode (jm_cod M_Ref_isWriteRipe) 18 = .ok (.iload_n 1, 1) := dt_Ref_isWriteRipe 10
theorem d_Ref_isWriteRipe_19 : decode (jm_cod M_Ref_isWriteRipe) 19 = .ok (.iaload, 1) := dt_Ref_isWriteRipe 11
theorem d_Ref_isWriteRipe_20 : decode (jm_cod M_Ref_isWriteRipe) 20 = .ok (.aload_n 0, 1) := dt_Ref_isWriteRipe 12
theorem d_Ref_isWriteRipe_21 : decode (jm_cod M_Ref_isWriteRipe) 21 = .ok (.getfield 23, 3) := dt_Ref_isWriteRipe 13
theorem d_Ref_isWriteRipe_24 : decode (jm_cod M_Ref_isWriteRipe) 24 = .ok (.iload_n 2, 1) := dt_Ref_isWriteRipe 14
theorem d_Ref_isWriteRipe_25 : decode (jm_cod M_Ref_isWriteRipe) 25 = .ok (.iaload, 1) := dt_Ref_isWriteRipe 15
theorem d_Ref_isWriteRipe_26 : decode (jm_cod M_Ref_isWriteRipe) 26 = .ok (.iadd, 1) := dt_Ref_isWriteRipe 16
theorem d_Ref_isWriteRipe_27 : decode (jm_cod M_Ref_isWriteRipe) 27 = .ok (.iconst 1, 1) := dt_Ref_isWriteRipe 17
theorem d_Ref_isWriteRipe_28 : decode (jm_cod M_Ref_isWriteRipe) 28 = .ok (.iadd, 1) := dt_Ref_isWriteRipe 18
theorem d_Ref_isWriteRipe_29 : decode (jm_cod M_Ref_isWriteRipe) 29 = .ok (.if_icmp .lt 7, 3) := dt_Ref_isWriteRipe 19
theorem d_Ref_isWriteRipe_32 : decode (jm_cod M_Ref_isWriteRipe) 32 = .ok (.iconst 1, 1) := dt_Ref_isWriteRipe 20
theorem d_Ref_isWriteRipe_33 : decode (jm_cod M_Ref_isWriteRipe) 33 = .ok (.goto 4, 3) := dt_Ref_isWriteRipe 21
theorem d_Ref_isWriteRipe_36 : decode (jm_cod M_Ref_isWriteRipe) 36 = .ok (.iconst 0, 1) := dt_Ref_isWriteRipe 22
theorem d_Ref_isWriteRipe_37 : decode (jm_cod M_Ref_isWriteRipe) 37 = .ok (.ireturn, 1) := dt_Ref_isWriteRipe 23
def tab_Ref_isFirstWithId : List (Nat × Instr × Nat) := [(0, .iconst 1, 1), (1, .istore 4, 2), (3, .iconst 0, 1), (4, .istore 5, 2), (6, .iload 5, 2), (8, .iload_n 2, 1), (9, .if_icmp .ge 114, 3), (12, .iload_n 3, 1), (13, .ifCond .eq 22, 3), (16, .aload_n 0, 1), (17, .getfield 163, 3), (20, .aload_n 0, 1), (21, .getfield 157, 3), (24, .iconst 4, 1), (25, .iload_n 1, 1), (26, .imul, 1), (27, .iload 5, 2), (29, .iadd, 1), (30, .iaload, 1), (31, .laload, 1), (32, .goto 19, 3), (35, .aload_n 0, 1), (36, .getfield 190, 3), (39, .aload_n 0, 1), (40, .getfield 184, 3), (43, .iconst 4, 1), (44, .iload_n 1, 1), (45, .imul, 1), (46, .iload 5, 2), (48, .iadd, 1), (49, .iaload, 1), (50, .laload, 1), (51, .lstore 6, 2), (53, .iload_n 3, 1), (54, .ifCond .eq 21, 3), (57, .aload_n 0, 1), (58, .getfield 163, 3), (61, .aload_n 0, 1), (62, .getfield 157, 3), (65, .iconst 4, 1), (66, .iload_n 1, 1), (67, .imul, 1), (68, .iload_n 2, 1), (69, .iadd, 1), (70, .iaload, 1), (71, .laload, 1), (72, .goto 18, 3), (75, .aload_n 0, 1), (76, .getfield 190, 3), (79, .aload_n 0, 1), (80, .getfield 184, 3), (83, .iconst 4, 1), (84, .iload_n 1, 1), (85, .imul, 1), (86, .iload_n 2, 1), (87, .iadd, 1), (88, .iaload, 1), (89, .laload, 1), (90, .lstore 8, 2), (92, .iload 4, 2), (94, .ifCond .eq 20, 3), (97, .lload 6, 2), (99, .invokestatic 396, 3), (102, .lload 8, 2), (104, .invokestatic 396, 3), (107, .if_icmp .eq 7, 3), (110, .iconst 1, 1), (111, .goto 4, 3), (114, .iconst 0, 1), (115, .istore 4, 2), (117, .iinc 5 1, 3), (120, .goto (-114), 3), (123, .iload 4, 2), (125, .ireturn, 1)]
theorem dt_Ref_isFirstWithId (i : Nat) : decode (jm_cod M_Ref_isFirstWithId) (tab_Ref_isFirstWithId.getD i (0, .iconst 1, 1)).1 = .ok ((tab_Ref_isFirstWithId.getD i (0, .iconst 1, 1)).2.1, (tab_Ref_isFirstWithId.getD i (0, .iconst 1, 1)).2.2) := j_tab (by decide +kernel) i
theorem d_Ref_isFirstWithId_0 : decode (jm_cod M_Ref_isFirstWithId) 0 = .ok (.iconst 1, 1) := dt_Ref_isFirstWithId 0
theorem d_Ref_isFirstWithId_1 : decode (jm_cod M_Ref_isFirstWithId) 1 = .ok (.istore 4, 2) := dt_Ref_isFirstWithId 1
theorem d_Ref_isFirstWithId_3 : decode (jm_cod M_Ref_isFirstWithId) 3 = .ok (.iconst 0, 1) := dt_Ref_isFirstWithId 2
theorem d_Ref_isFirstWithId_4 : decode (jm_cod M_Ref_isFirstWithId) 4 = .ok (.istore 5, 2) := dt_Ref_isFirstWithId 3
theorem d_Ref_isFirstWithId_6 : decode (jm_cod M_Ref_isFirstWithId) 6 = .ok (.iload 5, 2) := dt_Ref_isFirstWithId 4
theorem d_Ref_isFirstWithId_8 : decode (jm_cod M_Ref_isFirstWithId) 8 = .ok (.iload_n 2, 1) := dt_Ref_isFirstWithId 5
theorem d_Ref_isFirstWithId_9 : decode (jm_cod M_Ref_isFirstWithId) 9 = .ok (.if_icmp .ge 114, 3) := dt_Ref_isFirstWithId 6
theorem d_Ref_isFirstWithId_12 : decode (jm_cod M_Ref_isFirstWithId) 12 = .ok (.iload_n 3, 1) := dt_Ref_isFirstWithId 7
theorem d_Ref_isFirstWithId_13 : decode (jm_cod M_Ref_isFirstWithId) 13 = .ok (.ifCond .eq 22, 3) := dt_Ref_isFirstWithId 8
theorem d_Ref_isFirstWithId_16 : decode (jm_cod M_Ref_isFirstWithId) 16 = .ok (.aload_n 0, 1) := dt_Ref_isFirstWithId 9
theorem d_Ref_isFirstWithId_17 : decode (jm_cod M_Ref_isFirstWithId) 17 = .ok (.getfield 163, 3) := dt_Ref_isFirstWithId 10
theorem d_Ref_isFirstWithId_20 : decode (jm_cod M_Ref_isFirstWithId) 20 = .ok (.aload_n 0, 1) := dt_Ref_isFirstWithId 11
theorem d_Ref_isFirstWithId_21 : decode (jm_cod M_Ref_isFirstWithId) 21 = .ok (.getfield 157, 3) := dt_Ref_isFirstWithId 12
theorem d_Ref_isFirstWithId_24 : decode (jm_cod M_Ref_isFirstWithId) 24 = .ok (.iconst 4, 1) := dt_Ref_isFirstWithId 13
theorem d_Ref_isFirstWithId_25 : decode (jm_cod M_Ref_isFirstWithId) 25 = .ok (.iload_n 1, 1) := dt_Ref_isFirstWithId 14
theorem d_Ref_isFirstWithId_26 : decode (jm_cod M_Ref_isFirstWithId) 26 = .ok (.imul, 1) := dt_Ref_isFirstWithId 15
theorem d_Ref_isFirstWithId_27 : decode (jm_cod M_Ref_isFirstWithId) 27 = .ok (.iload 5, 2) := dt_Ref_isFirstWithId 16
theorem d_Ref_isFirstWithId_29 : decode (jm_cod M_Ref_isFirstWithId) 29 = .ok (.iadd, 1) := dt_Ref_isFirstWithId 17
theorem d_Ref_isFirstWithId_30 : decode (jm_cod M_Ref_isFirstWithId) 30 = .ok (.iaload, 1) := dt_Ref_isFirstWithId 18
theorem d_Ref_isFirstWithId_31 : decode (jm_cod M_Ref_isFirstWithId) 31 = .ok (.laload, 1) := dt_Ref_isFirstWithId 19
theorem d_Ref_isFirstWithId_32 : decode (jm_cod M_Ref_isFirstWithId) 32 = .ok (.goto 19, 3) := dt_Ref_isFirstWithId 20
theorem d_Ref_isFirstWithId_35 : decode (jm_cod M_Ref_isFirstWithId) 35 = .ok (.aload_n 0, 1) := dt_Ref_isFirstWithId 21
theorem d_Ref_isFirstWithId_36 : decode (jm_cod M_Ref_isFirstWithId) 36 = .ok (.getfield 190, 3) := dt_Ref_isFirstWithId 22
theorem d_Ref_isFirstWithId_39 : decode (jm_cod M_Ref_isFirstWithId) 39 = .ok (.aload_n 0, 1) := dt_Ref_isFirstWithId 23
theorem d_Ref_isFirstWithId_40 : decode (jm_cod M_Ref_isFirstWithId) 40 = .ok (.getfield 184, 3) := dt_Ref_isFirstWithId 24
theorem d_Ref_isFirstWithId_43 : decode (jm_cod M_Ref_isFirstWithId) 43 = .ok (.iconst 4, 1) := dt_Ref_isFirstWithId 25
theorem d_Ref_isFirstWithId_44 : decode (jm_cod M_Ref_isFirstWithId) 44 = .ok (.iload_n 1, 1) := dt_Ref_isFirstWithId 26
theorem d_Ref_isFirstWithId_45 : decode (jm_cod M_Ref_isFirstWithId) 45 = .ok (.imul, 1) := dt_Ref_isFirstWithId 27
theorem d_Ref_isFirstWithId_46 : decode (jm_cod M_Ref_isFirstWithId) 46 = .ok (.iload 5, 2) := dt_Ref_isFirstWithId 28
theorem d_Ref_isFirstWithId_48 : decode (jm_cod M_Ref_isFirstWithId) 48 = .ok (.iadd, 1) := dt_Ref_isFirstWithId 29
theorem d_Ref_isFirstWithId_49 : decode (jm_cod M_Ref_isFirstWithId) 49 = .ok (.iaload, 1) := dt_Ref_isFirstWithId 30
theorem d_Ref_isFirstWithId_50 : decode (jm_cod M_Ref_isFirstWithId) 50 = .ok (.laload, 1) := dt_Ref_isFirstWithId 31
theorem d_Ref_isFirstWithId_51 : decode (jm_cod M_Ref_isFirstWithId) 51 = .ok (.lstore 6, 2) := dt_Ref_isFirstWithId 32
theorem d_Ref_isFirstWithId_53 : decode (jm_cod M_Ref_isFirstWithId) 53 = .ok (.iload_n 3, 1) := dt_Ref_isFirstWithId 33
theorem d_Ref_isFirstWithId_54 : decode (jm_cod M_Ref_isFirstWithId) 54 = .ok (.ifCond .eq 21, 3) := dt_Ref_isFirstWithId 34
theorem d_Ref_isFirstWithId_57 : decode (jm_cod M_Ref_isFirstWithId) 57 = .ok (.aload_n 0, 1) := dt_Ref_isFirstWithId 35
theorem d_Ref_isFirstWithId_58 : decode (jm_cod M_Ref_isFirstWithId) 58 = .ok (.getfield 163, 3) := dt_Ref_isFirstWithId 36
theorem d_Ref_isFirstWithId_61 : decode (jm_cod M_Ref_isFirstWithId) 61 = .ok (.aload_n 0, 1) := dt_Ref_isFirstWithId 37
theorem d_Ref_isFirstWithId_62 : decode (jm_cod M_Ref_isFirstWithId) 62 = .ok (.getfield 157, 3) := dt_Ref_isFirstWithId 38
theorem d_Ref_isFirstWithId_65 : decode (jm_cod M_Ref_isFirstWithId) 65 = .ok (.iconst 4, 1) := dt_Ref_isFirstWithId 39
theorem d_Ref_isFirstWithId_66 : decode (jm_cod M_Ref_isFirstWithId) 66 = .ok (.iload_n 1, 1) := dt_Ref_isFirstWithId 40
theorem d_Ref_isFirstWithId_67 : decode (jm_cod M_Ref_isFirstWithId) 67 = .ok (.imul, 1) := dt_Ref_isFirstWithId 41
theorem d_Ref_isFirstWithId_68 : decode (jm_cod M_Ref_isFirstWithId) 68 = .ok (.iload_n 2, 1) := dt_Ref_isFirstWithId 42
theorem d_Ref_isFirstWithId_69 : decode (jm_cod M_Ref_isFirstWithId) 69 = .ok (.iadd, 1) := dt_Ref_isFirstWithId 43
theorem d_Ref_isFirstWithId_70 : decode (jm_cod M_Ref_isFirstWithId) 70 = .ok (.iaload, 1) := dt_Ref_isFirstWithId 44
theorem d_Ref_isFirstWithId_71 : decode (jm_cod M_Ref_isFirstWithId) 71 = .ok (.laload, 1) := dt_Ref_isFirstWithId 45
theorem d_Ref_isFirstWithId_72 : decode (jm_cod M_Ref_isFirstWithId) 72 = .ok (.goto 18, 3) := dt_Ref_isFirstWithId 46
theorem d_Ref_isFirstWithId_75 : decode (jm_cod M_Ref_isFirstWithId) 75 = .ok (.aload_n 0, 1) := dt_Ref_isFirstWithId 47
theorem d_Ref_isFirstWithId_76 : decode (jm_cod M_Ref_isFirstWithId) 76 = .ok (.getfield 190, 3) := dt_Ref_isFirstWithId 48
theorem d_Ref_isFirstWithId_79 : decode (jm_cod M_Ref_isFirstWithId) 79 = .ok (.aload_n 0, 1) := dt_Ref_isFirstWithId 49
theorem d_Ref_isFirstWithId_80 : decode (jm_cod M_Ref_isFirstWithId) 80 = .ok (.getfield 184, 3) := dt_Ref_isFirstWithId 50
theorem d_Ref_isFirstWithId_83 : decode (jm_cod M_Ref_isFirstWithId) 83 = .ok (.iconst 4, 1) := dt_Ref_isFirstWithId 51
theorem d_Ref_isFirstWithId_84 : decode (jm_cod M_Ref_isFirstWithId) 84 = .ok (.iload_n 1, 1) := dt_Ref_isFirstWithId 52
theorem d_Ref_isFirstWithId_85 : decode (jm_cod M_Ref_isFirstWithId) 85 = .ok (.imul, 1) := dt_Ref_isFirstWithId 53
theorem d_Ref_isFirstWithId_86 : decode (jm_cod M_Ref_isFirstWithId) 86 = .ok (.iload_n 2, 1) := dt_Ref_isFirstWithId 54
theorem d_Ref_isFirstWithId_87 : decode (jm_cod M_Ref_isFirstWithId) 87 = .ok (.iadd, 1) := dt_Ref_isFirstWithId 55
theorem d_Ref_isFirstWithId_88 : decode (jm_cod M_Ref_isFirstWithId) 88 = .ok (.iaload, 1) := dt_Ref_isFirstWithId 56
theorem d_Ref_isFirstWithId_89 : decode (jm_cod M_Ref_isFirstWithId) 89 = .ok (.laload, 1) := dt_Ref_isFirstWithId 57
theorem d_Ref_isFirstWithId_90 : decode (jm_cod M_Ref_isFirstWithId) 90 = .ok (.lstore 8, 2) := dt_Ref_isFirstWithId 58
theorem d_Ref_isFirstWithId_92 : decode (jm_cod M_Ref_isFirstWithId) 92 = .ok (.iload 4, 2) := dt_Ref_isFirstWithId 59
theorem d_Ref_isFirstWithId_94 : decode (jm_cod M_Ref_isFirstWithId) 94 = .ok (.ifCond .eq 20, 3) := dt_Ref_isFirstWithId 60
theorem d_Ref_isFirstWithId_97 : decode (jm_cod M_Ref_isFirstWithId) 97 = .ok (.lload 6, 2) := dt_Ref_isFirstWithId 61
theorem d_Ref_isFirstWithId_99 : decode (jm_cod M_Ref_isFirstWithId) 99 = .ok (.invokestatic 396, 3) := dt_Ref_isFirstWithId 62
theorem d_Ref_isFirstWithId_102 : decode (jm_cod M_Ref_isFirstWithId) 102 = .ok (.lload 8, 2) := dt_Ref_isFirstWithId 63
theorem d_Ref_isFirstWithId_104 : decode (jm_cod M_Ref_isFirstWithId) 104 = .ok (.invokestatic 396, 3) := dt_Ref_isFirstWithId 64
theorem d_Ref_isFirstWithId_107 : decode (jm_cod M_Ref_isFirstWithId) 107 = .ok (.if_icmp .eq 7, 3) := dt_Ref_isFirstWithId 65
theorem d_Ref_isFirstWithId_110 : decode (jm_cod M_Ref_isFirstWithId) 110 = .ok (.iconst 1, 1) := dt_Ref_isFirstWithId 66
theorem d_Ref_isFirstWithId_111 : decode (jm_cod M_Ref_isFirstWithId) 111 = .ok (.goto 4, 3) := dt_Ref_isFirstWithId 67
theorem d_Ref_isFirstWithId_114 : decode (jm_cod M_Ref_isFirstWithId) 114 = .ok (.iconst 0, 1) := dt_Ref_isFirstWithId 68
theorem d_Ref_isFirstWithId_115 : decode (jm_cod M_Ref_isFirstWithId) 115 = .ok (.istore 4, 2) := dt_Ref_isFirstWithId 69
theorem d_Ref_isFirstWithId_117 : decode (jm_cod M_Ref_isFirstWithId) 117 = .ok (.iinc 5 1, 3) := dt_Ref_isFirstWithId 70
theorem d_Ref_isFirstWithId_120 : decode (jm_cod M_Ref_isFirstWithId) 120 = .ok (.goto (-114), 3) := dt_Ref_isFirstWithId 71
theorem d_Ref_isFirstWithId_123 : decode (jm_cod M_Ref_isFirstWithId) 123 = .ok (.iload 4, 2) := dt_Ref_isFirstWithId 72
theorem d_Ref_isFirstWithId_125 : decode (jm_cod M_Ref_isFirstWithId) 125 = .ok (.ireturn, 1) := dt_Ref_isFirstWithId 73
def tab_Ref_idOf : List (Nat × Instr × Nat) := [(0, .lload_n 0, 1), (1, .ldc2_w 306, 3), (4, .land, 1), (5, .l2i, 1), (6, .ireturn, 1)]
theorem dt_Ref_idOf (i : Nat) : decode (jm_cod M_Ref_idOf) (tab_Ref_idOf.getD i (0, .lload_n 0, 1)).1 = .ok ((tab_Ref_idOf.getD i (0, .lload_n 0, 1)).2.1, (tab_Ref_idOf.getD i (0, .lload_n 0, 1)).2.2) := j_tab (by decide +kernel) i
theorem d_Ref_idOf_0 : decode (jm_cod M_Ref_idOf) 0 = .ok (.lload_n 0, 1) := dt_Ref_idOf 0
theorem d_Ref_idOf_1 : decode (jm_cod M_Ref_idOf) 1 = .ok (.ldc2_w 306, 3) := dt_Ref_idOf 1
theorem d_Ref_idOf_4 : decode (jm_cod M_Ref_idOf) 4 = .ok (.land, 1) := dt_Ref_idOf 2
theorem d_Ref_idOf_5 : decode (jm_cod M_Ref_idOf) 5 = .ok (.l2i, 1) := dt_Ref_idOf 3
theorem d_Ref_idOf_6 : decode (jm_cod M_Ref_idOf) 6 = .ok (.ireturn, 1) := dt_Ref_idOf 4
def tab_Ref_chooseRead : List (Nat × Instr × Nat) := [(0, .iconst (-1), 1), (1, .istore_n 2, 1), (2, .iconst (-1), 1), (3, .istore_n 3, 1), (4, .iconst (-1), 1), (5, .istore 4, 2), (7, .iconst (-1), 1), (8, .istore 5, 2), (10, .iconst 0, 1), (11, .istore 6, 2), (13, .iload 6, 2), (15, .aload_n 0, 1), (16, .getfield 181, 3), (19, .iload_n 1, 1), (20, .iaload, 1), (21, .if_icmp .ge 143, 3), (24, .aload_n 0, 1), (25, .getfield 184, 3), (28, .iconst 4, 1), (29, .iload_n 1, 1), (30, .imul, 1), (31, .iload 6, 2), (33, .iadd, 1), (34, .iaload, 1), (35, .istore 7, 2), (37, .aload_n 0, 1), (38, .iload 7, 2), (40, .iload_n 1, 1), (41, .invokevirtual 406, 3), (44, .ifCond .eq 35, 3), (47, .aload_n 0, 1), (48, .getfield 26, 3), (51, .iload_n 1, 1), (52, .iaload, 1), (53, .ifCond .ne 11, 3), (56, .iload 6, 2), (58, .ifCond .ne 21, 3), (61, .goto 14, 3), (64, .aload_n 0, 1), (65, .iload_n 1, 1), (66, .iload 6, 2), (68, .iconst 0, 1), (69, .invokevirtual 402, 3), (72, .ifCond .eq 7, 3), (75, .iconst 1, 1), (76, .goto 4, 3), (79, .iconst 0, 1), (80, .istore 8, 2), (82, .iload 8, 2), (84, .ifCond .eq 74, 3), (87, .iload 7, 2), (89, .istore_n 2, 1), (90, .iload 4, 2), (92, .iconst (-1), 1), (93, .if_icmp .ne 8, 3), (96, .iload 7, 2), (98, .goto 5, 3), (101, .iload 4, 2), (103, .istore 4, 2), (105, .iload_n 3, 1), (106, .iconst (-1), 1), (107, .if_icmp .ne 18, 3), (110, .aload_n 0, 1), (111, .getfield 193, 3), (114, .iload 7, 2), (116, .iaload, 1), (117, .ifCond .le 8, 3), (120, .iload 7, 2), (122, .goto 4, 3), (125, .iload_n 3, 1), (126, .istore_n 3, 1), (127, .iload 5, 2), (129, .iconst (-1), 1), (130, .if_icmp .ne 24, 3), (133, .aload_n 0, 1), (134, .getfield 199, 3), (137, .iload 7, 2), (139, .iaload, 1), (140, .aload_n 0, 1), (141, .getfield 211, 3), (144, .iload_n 1, 1), (145, .iaload, 1), (146, .if_icmp .le 8, 3), (149, .iload 7, 2), (151, .goto 5, 3), (154, .iload 5, 2), (156, .istore 5, 2), (158, .iinc 6 1, 3), (161, .goto (-148), 3), (164, .aload_n 0, 1), (165, .getfield 26, 3), (168, .iload_n 1, 1), (169, .iaload, 1), (170, .iconst 2, 1), (171, .if_icmp .ne 19, 3), (174, .iload 5, 2), (176, .iconst (-1), 1), (177, .if_icmp .eq 8, 3), (180, .iload 5, 2), (182, .goto 28, 3), (185, .iload 4, 2), (187, .goto 23, 3), (190, .aload_n 0, 1), (191, .getfield 26, 3), (194, .iload_n 1, 1), (195, .iaload, 1), (196, .iconst 1, 1), (197, .if_icmp .ne 12, 3), (200, .iload_n 3, 1), (201, .iconst (-1), 1), (202, .if_icmp .eq 7, 3), (205, .iload_n 3, 1), (206, .goto 4, 3), (209, .iload_n 2, 1), (210, .ireturn, 1)]
theorem dt_Ref_chooseRead (i : Nat) : decode (jm_cod M_Ref_chooseRead) (tab_Ref_chooseRead.getD i (0, .iconst (-1), 1)).1 = .ok ((tab_Ref_chooseRead.getD i (0, .iconst (-1), 1)).2.1, (tab_Ref_chooseRead.getD i (0, .iconst (-1), 1)).2.2) := j_tab (by decide +kernel) i
theorem d_Ref_chooseRead_0 : decode (jm_cod M_Ref_chooseRead) 0 = .ok (.iconst (-1), 1) := dt_Ref_chooseRead 0
theorem d_Ref_chooseRead_1 : decode (jm_cod M_Ref_chooseRead) 1 = .ok (.istore_n 2, 1) := dt_Ref_chooseRead 1
theorem d_Ref_chooseRead_2 : decode (jm_cod M_Ref_chooseRead) 2 = .ok (.iconst (-1), 1) := dt_Ref_chooseRead 2
theorem d_Ref_chooseRead_3 : decode (jm_cod M_Ref_chooseRead) 3 = .ok (.istore_n 3, 1) := dt_Ref_chooseRead 3
theorem d_Ref_chooseRead_4 : decode (jm_cod M_Ref_chooseRead) 4 = .ok (.iconst (-1), 1) := dt_Ref_chooseRead 4
theorem d_Ref_chooseRead_5 : decode (jm_cod M_Ref_chooseRead) 5 = .ok (.istore 4, 2) := dt_Ref_chooseRead 5
theorem d_Ref_chooseRead_7 : decode (jm_cod M_Ref_chooseRead) 7 = .ok (.iconst (-1), 1) := dt_Ref_chooseRead 6
theorem d_Ref_chooseRead_8 : decode (jm_cod M_Ref_chooseRead) 8 = .ok (.istore 5, 2) := dt_Ref_chooseRead 7
theorem d_Ref_chooseRead_10 : decode (jm_cod M_Ref_chooseRead) 10 = .ok (.iconst 0, 1) := dt_Ref_chooseRead 8
theorem d_Ref_chooseRead_11 : decode (jm_cod M_Ref_chooseRead) 11 = .ok (.istore 6, 2) := dt_Ref_chooseRead 9
theorem d_Ref_chooseRead_13 : decode (jm_cod M_Ref_chooseRead) 13 = .ok (.iload 6, 2) := dt_Ref_chooseRead 10
theorem d_Ref_chooseRead_15 : decode (jm_cod M_Ref_chooseRead) 15 = .ok (.aload_n 0, 1) := dt_Ref_chooseRead 11
theorem d_Ref_chooseRead_16 : decode (jm_cod M_Ref_chooseRead) 16 = .ok (.getfield 181, 3) := dt_Ref_chooseRead 12
theorem d_Ref_chooseRead_19 : decode (jm_cod M_Ref_chooseRead) 19 = .ok (.iload_n 1, 1) := dt_Ref_chooseRead 13
theorem d_Ref_chooseRead_20 : decode (jm_cod M_Ref_chooseRead) 20 = .ok (.iaload, 1) := dt_Ref_chooseRead 14
theorem d_Ref_chooseRead_21 : decode (jm_cod M_Ref_chooseRead) 21 = .ok (.if_icmp .ge 143, 3) := dt_Ref_chooseRead 15
theorem d_Ref_chooseRead_24 : decode (jm_cod M_Ref_chooseRead) 24 = .ok (.aload_n 0, 1) := dt_Ref_chooseRead 16
theorem d_Ref_chooseRead_25 : decode (jm_cod M_Ref_chooseRead) 25 = .ok (.getfield 184, 3) := dt_Ref_chooseRead 17
theorem d_Ref_chooseRead_28 : decode (jm_cod M_Ref_chooseRead) 28 = .ok (.iconst 4, 1) := dt_Ref_chooseRead 18
theorem d_Ref_chooseRead_29 : decode (jm_cod M_Ref_chooseRead) 29 = .ok (.iload_n 1, 1) := dt_Ref_chooseRead 19
theorem d_Ref_chooseRead_30 : decode (jm_cod M_Ref_chooseRead) 30 = .ok (.imul, 1) := dt_Ref_chooseRead 20
theorem d_Ref_chooseRead_31 : decode (jm_cod M_Ref_chooseRead) 31 = .ok (.iload 6, 2) := dt_Ref_chooseRead 21
theorem d_Ref_chooseRead_33 : decode (jm_cod M_Ref_chooseRead) 33 = .ok (.iadd, 1) := dt_Ref_chooseRead 22
theorem d_Ref_chooseRead_34 : decode (jm_cod M_Ref_chooseRead) 34 = .ok (.iaload, 1) := dt_Ref_chooseRead 23
theorem d_Ref_chooseRead_35 : decode (jm_cod M_Ref_chooseRead) 35 = .ok (.istore 7, 2) := dt_Ref_chooseRead 24
theorem d_Ref_chooseRead_37 : decode (jm_cod M_Ref_chooseRead) 37 = .ok (.aload_n 0, 1) := dt_Ref_chooseRead 25
theorem d_Ref_chooseRead_38 : decode (jm_cod M_Ref_chooseRead) 38 = .ok (.iload 7, 2) := dt_Ref_chooseRead 26
theorem d_Ref_chooseRead_40 : decode (jm_cod M_Ref_chooseRead) 40 = .ok (.iload_n 1, 1) := dt_Ref_chooseRead 27
theorem d_Ref_chooseRead_41 : decode (jm_cod M_Ref_chooseRead) 41 = .ok (.invokevirtual 406, 3) := dt_Ref_chooseRead 28
theorem d_Ref_chooseRead_44 : decode (jm_cod M_Ref_chooseRead) 44 = .ok (.ifCond .eq 35, 3) := dt_Ref_chooseRead 29
theorem d_Ref_chooseRead_47 : decode (jm_cod M_Ref_chooseRead) 47 = .ok (.aload_n 0, 1) := dt_Ref_chooseRead 30
theorem d_Ref_chooseRead_48 : decode (jm_cod M_Ref_chooseRead) 48 = .ok (.getfield 26, 3) := dt_Ref_chooseRead 31
theorem d_Ref_chooseRead_51 : decode (jm_cod M_Ref_chooseRead) 51 = .ok (.iload_n 1, 1) := dt_Ref_chooseRead 32
theorem d_Ref_chooseRead_52 : decode (jm_cod M_Ref_chooseRead) 52 = .ok (.iaload, 1) := dt_Ref_chooseRead 33
theorem d_Ref_chooseRead_53 : decode (jm_cod M_Ref_chooseRead) 53 = .ok (.ifCond .ne 11, 3) := dt_Ref_chooseRead 34
theorem d_Ref_chooseRead_56 : decode (jm_cod M_Ref_chooseRead) 56 = .ok (.iload 6, 2) := dt_Ref_chooseRead 35
theorem d_Ref_chooseRead_58 : decode (jm_cod M_Ref_chooseRead) 58 = .ok (.ifCond .ne 21, 3) := dt_Ref_chooseRead 36
theorem d_Ref_chooseRead_61 : decode (jm_cod M_Ref_chooseRead) 61 = .ok (.goto 14, 3) := dt_Ref_chooseRead 37
theorem d_Ref_chooseRead_64 : decode (jm_cod M_Ref_chooseRead) 64 = .ok (.aload_n 0, 1) := dt_Ref_chooseRead 38
theorem d_Ref_chooseRead_65 : decode (jm_cod M_Ref_chooseRead) 65 = .ok (.iload_n 1, 1) := dt_Ref_chooseRead 39
theorem d_Ref_chooseRead_66 : decode (jm_cod M_Ref_chooseRead) 66 = .ok (.iload 6, 2) := dt_Ref_chooseRead 40
theorem d_Ref_chooseRead_68 : decode (jm_cod M_Ref_chooseRead) 68 = .ok (.iconst 0, 1) := dt_Ref_chooseRead 41
theorem d_Ref_chooseRead_69 : decode (jm_cod M_Ref_chooseRead) 69 = .ok (.invokevirtual 402, 3) := dt_Ref_chooseRead 42
theorem d_Ref_chooseRead_72 : decode (jm_cod M_Ref_chooseRead) 72 = .ok (.ifCond .eq 7, 3) := dt_Ref_chooseRead 43
theorem d_Ref_chooseRead_75 : decode (jm_cod M_Ref_chooseRead) 75 = .ok (.iconst 1, 1) := dt_Ref_chooseRead 44
theorem d_Ref_chooseRead_76 : decode (jm_cod M_Ref_chooseRead) 76 = .ok (.goto 4, 3) := dt_Ref_chooseRead 45
theorem d_Ref_chooseRead_79 : decode (jm_cod M_Ref_chooseRead) 79 = .ok (.iconst 0, 1) := dt_Ref_chooseRead 46
theorem d_Ref_chooseRead_80 : decode (jm_cod M_Ref_chooseRead) 80 = .ok (.istore 8, 2) := dt_Ref_chooseRead 47
theorem d_Ref_chooseRead_82 : decode (jm_cod M_Ref_chooseRead) 82 = .ok (.iload 8, 2) := dt_Ref_chooseRead 48
theorem d_Ref_chooseRead_84 : decode (jm_cod M_Ref_chooseRead) 84 = .ok (.ifCond .eq 74, 3) := dt_Ref_chooseRead 49
theorem d_Ref_chooseRead_87 : decode (jm_cod M_Ref_chooseRead) 87 = .ok (.iload 7, 2) := dt_Ref_chooseRead 50
theorem d_Ref_chooseRead_89 : decode (jm_cod M_Ref_chooseRead) 89 = .ok (.istore_n 2, 1) := dt_Ref_chooseRead 51
theorem d_Ref_chooseRead_90 : decode (jm_cod M_Ref_chooseRead) 90 = .ok (.iload 4, 2) := dt_Ref_chooseRead 52
theorem d_Ref_chooseRead_92 : decode (jm_cod M_Ref_chooseRead) 92 = .ok (.iconst (-1), 1) := dt_Ref_chooseRead 53
theorem d_Ref_chooseRead_93 : decode (jm_cod M_Ref_chooseRead) 93 = .ok (.if_icmp .ne 8, 3) := dt_Ref_chooseRead 54
theorem d_Ref_chooseRead_96 : decode (jm_cod M_Ref_chooseRead) 96 = .ok (.iload 7, 2) := dt_Ref_chooseRead 55
theorem d_Ref_chooseRead_98 : decode (jm_cod M_Ref_chooseRead) 98 = .ok (.goto 5, 3) := dt_Ref_chooseRead 56
theorem d_Ref_chooseRead_101 : decode (jm_cod M_Ref_chooseRead) 101 = .ok (.iload 4, 2) := dt_Ref_chooseRead 57
theorem d_Ref_chooseRead_103 : decode (jm_cod M_Ref_chooseRead) 103 = .ok (.istore 4, 2) := dt_Ref_chooseRead 58
theorem d_Ref_chooseRead_105 : decode (jm_cod M_Ref_chooseRead) 105 = .ok (.iload_n 3, 1) := dt_Ref_chooseRead 59
theorem d_Ref_chooseRead_106 : decode (jm_cod M_Ref_chooseRead) 106 = .ok (.iconst (-1), 1) := dt_Ref_chooseRead 60
theorem d_Ref_chooseRead_107 : decode (jm_cod M_Ref_chooseRead) 107 = .ok (.if_icmp .ne 18, 3) := dt_Ref_chooseRead 61
theorem d_Ref_chooseRead_110 : decode (jm_cod M_Ref_chooseRead) 110 = .ok (.aload_n 0, 1) := dt_Ref_chooseRead 62
theorem d_Ref_chooseRead_111 : decode (jm_cod M_Ref_chooseRead) 111 = .ok (.getfield 193, 3) := dt_Ref_chooseRead 63
theorem d_Ref_chooseRead_114 : decode (jm_cod M_Ref_chooseRead) 114 = .ok (.iload 7, 2) := dt_Ref_chooseRead 64
theorem d_Ref_chooseRead_116 : decode (jm_cod M_Ref_chooseRead) 116 = .ok (.iaload, 1) := dt_Ref_chooseRead 65
theorem d_Ref_chooseRead_117 : decode (jm_cod M_Ref_chooseRead) 117 = .ok (.ifCond .le 8, 3) := dt_Ref_chooseRead 66
theorem d_Ref_chooseRead_120 : decode (jm_cod M_Ref_chooseRead) 120 = .ok (.iload 7, 2) := dt_Ref_chooseRead 67
theorem d_Ref_chooseRead_122 : decode (jm_cod M_Ref_chooseRead) 122 = .ok (.goto 4, 3) := dt_Ref_chooseRead 68
theorem d_Ref_chooseRead_125 : decode (jm_cod M_Ref_chooseRead) 125 = .ok (.iload_n 3, 1) := dt_Ref_chooseRead 69
theorem d_Ref_chooseRead_126 : decode (jm_cod M_Ref_chooseRead) 126 = .ok (.istore_n 3, 1) := dt_Ref_chooseRead 70
theorem d_Ref_chooseRead_127 : decode (jm_cod M_Ref_chooseRead) 127 = .ok (.iload 5, 2) := dt_Ref_chooseRead 71
theorem d_Ref_chooseRead_129 : decode (jm_cod M_Ref_chooseRead) 129 = .ok (.iconst (-1), 1) := dt_Ref_chooseRead 72
theorem d_Ref_chooseRead_130 : decode (jm_cod M_Ref_chooseRead) 130 = .ok (.if_icmp .ne 24, 3) := dt_Ref_chooseRead 73
theorem d_Ref_chooseRead_133 : decode (jm_cod M_Ref_chooseRead) 133 = .ok (.aload_n 0, 1) := dt_Ref_chooseRead 74
theorem d_Ref_chooseRead_134 : decode (jm_cod M_Ref_chooseRead) 134 = .ok (.getfield 199, 3) := dt_Ref_chooseRead 75
theorem d_Ref_chooseRead_137 : decode (jm_cod M_Ref_chooseRead) 137 = .ok (.iload 7, 2) := dt_Ref_chooseRead 76
theorem d_Ref_chooseRead_139 : decode (jm_cod M_Ref_chooseRead) 139 = .ok (.iaload, 1) := dt_Ref_chooseRead 77
theorem d_Ref_chooseRead_140 : decode (jm_cod M_Ref_chooseRead) 140 = .ok (.aload_n 0, 1) := dt_Ref_chooseRead 78
theorem d_Ref_chooseRead_141 : decode (jm_cod M_Ref_chooseRead) 141 = .ok (.getfield 211, 3) := dt_Ref_chooseRead 79
theorem d_Ref_chooseRead_144 : decode (jm_cod M_Ref_chooseRead) 144 = .ok (.iload_n 1, 1) := dt_Ref_chooseRead 80
theorem d_Ref_chooseRead_145 : decode (jm_cod M_Ref_chooseRead) 145 = .ok (.iaload, 1) := dt_Ref_chooseRead 81
theorem d_Ref_chooseRead_146 : decode (jm_cod M_Ref_chooseRead) 146 = .ok (.if_icmp .le 8, 3) := dt_Ref_chooseRead 82
theorem d_Ref_chooseRead_149 : decode (jm_cod M_Ref_chooseRead) 149 = .ok (.iload 7, 2) := dt_Ref_chooseRead 83
theorem d_Ref_chooseRead_151 : decode (jm_cod M_Ref_chooseRead) 151 = .ok (.goto 5, 3) := dt_Ref_chooseRead 84
theorem d_Ref_chooseRead_154 : decode (jm_cod M_Ref_chooseRead) 154 = .ok (.iload 5, 2) := dt_Ref_chooseRead 85
theorem d_Ref_chooseRead_156 : decode (jm_cod M_Ref_chooseRead) 156 = .ok (.istore 5, 2) := dt_Ref_chooseRead 86
theorem d_Ref_chooseRead_158 : decode (jm_cod M_Ref_chooseRead) 158 = .ok (.iinc 6 1, 3) := dt_Ref_chooseRead 87
theorem d_Ref_chooseRead_161 : decode (jm_cod M_Ref_chooseRead) 161 = .ok (.goto (-148), 3) := dt_Ref_chooseRead 88
theorem d_Ref_chooseRead_164 : decode (jm_cod M_Ref_chooseRead) 164 = .ok (.aload_n 0, 1) := dt_Ref_chooseRead 89
theorem d_Ref_chooseRead_165 : decode (jm_cod M_Ref_chooseRead) 165 = .ok (.getfield 26, 3) := dt_Ref_chooseRead 90
theorem d_Ref_chooseRead_168 : decode (jm_cod M_Ref_chooseRead) 168 = .ok (.iload_n 1, 1) := dt_Ref_chooseRead 91
theorem d_Ref_chooseRead_169 : decode (jm_cod M_Ref_chooseRead) 169 = .ok (.iaload, 1) := dt_Ref_chooseRead 92
theorem d_Ref_chooseRead_170 : decode (jm_cod M_Ref_chooseRead) 170 = .ok (.iconst 2, 1) := dt_Ref_chooseRead 93
theorem d_Ref_chooseRead_171 : decode (jm_cod M_Ref_chooseRead) 171 = .ok (.if_icmp .ne 19, 3) := dt_Ref_chooseRead 94
theorem d_Ref_chooseRead_174 : decode (jm_cod M_Ref_chooseRead) 174 = .ok (.iload 5, 2) := dt_Ref_chooseRead 95
theorem d_Ref_chooseRead_176 : decode (jm_cod M_Ref_chooseRead) 176 = .ok (.iconst (-1), 1) := dt_Ref_chooseRead 96
theorem d_Ref_chooseRead_177 : decode (jm_cod M_Ref_chooseRead) 177 = .ok (.if_icmp .eq 8, 3) := dt_Ref_chooseRead 97
theorem d_Ref_chooseRead_180 : decode (jm_cod M_Ref_chooseRead) 180 = .ok (.iload 5, 2) := dt_Ref_chooseRead 98
theorem d_Ref_chooseRead_182 : decode (jm_cod M_Ref_chooseRead) 182 = .ok (.goto 28, 3) := dt_Ref_chooseRead 99
theorem d_Ref_chooseRead_185 : decode (jm_cod M_Ref_chooseRead) 185 = .ok (.iload 4, 2) := dt_Ref_chooseRead 100
theorem d_Ref_chooseRead_187 : decode (jm_cod M_Ref_chooseRead) 187 = .ok (.goto 23, 3) := dt_Ref_chooseRead 101
theorem d_Ref_chooseRead_190 : decode (jm_cod M_Ref_chooseRead) 190 = .ok (.aload_n 0, 1) := dt_Ref_chooseRead 102
theorem d_Ref_chooseRead_191 : decode (jm_cod M_Ref_chooseRead) 191 = .ok (.getfield 26, 3) := dt_Ref_chooseRead 103
theorem d_Ref_chooseRead_194 : decode (jm_cod M_Ref_chooseRead) 194 = .ok (.iload_n 1, 1) := dt_Ref_chooseRead 104
theorem d_Ref_chooseRead_195 : decode (jm_cod M_Ref_chooseRead) 195 = .ok (.iaload, 1) := dt_Ref_chooseRead 105
theorem d_Ref_chooseRead_196 : decode (jm_cod M_Ref_chooseRead) 196 = .ok (.iconst 1, 1) := dt_Ref_chooseRead 106
theorem d_Ref_chooseRead_197 : decode (jm_cod M_Ref_chooseRead) 197 = .ok (.if_icmp .ne 12, 3) := dt_Ref_chooseRead 107
theorem d_Ref_chooseRead_200 : decode (jm_cod M_Ref_chooseRead) 200 = .ok (.iload_n 3, 1) := dt_Ref_chooseRead 108
theorem d_Ref_chooseRead_201 : decode (jm_cod M_Ref_chooseRead) 201 = .ok (.iconst (-1), 1) := dt_Ref_chooseRead 109
theorem d_Ref_chooseRead_202 : decode (jm_cod M_Ref_chooseRead) 202 = .ok (.if_icmp .eq 7, 3) := dt_Ref_chooseRead 110
theorem d_Ref_chooseRead_205 : decode (jm_cod M_Ref_chooseRead) 205 = .ok (.iload_n 3, 1) := dt_Ref_chooseRead 111
theorem d_Ref_chooseRead_206 : decode (jm_cod M_Ref_chooseRead) 206 = .ok (.goto 4, 3) := dt_Ref_chooseRead 112
theorem d_Ref_chooseRead_209 : decode (jm_cod M_Ref_chooseRead) 209 = .ok (.iload_n 2, 1) := dt_Ref_chooseRead 113
theorem d_Ref_chooseRead_210 : decode (jm_cod M_Ref_chooseRead) 210 = .ok (.ireturn, 1) := dt_Ref_chooseRead 114
def tab_Ref_isReadRipe : List (Nat × Instr × Nat) := [(0, .aload_n 0, 1), (1, .getfield 348, 3), (4, .aload_n 0, 1), (5, .getfield 196, 3), (8, .iload_n 1, 1), (9, .iaload, 1), (10, .aload_n 0, 1), (11, .getfield 23, 3), (14, .iload_n 2, 1), (15, .iaload, 1), (16, .iadd, 1), (17, .iconst 1, 1), (18, .iadd, 1), (19, .if_icmp .lt 7, 3), (22, .iconst 1, 1), (23, .goto 4, 3), (26, .iconst 0, 1), (27, .ireturn, 1)]
theorem dt_Ref_isReadRipe (i : Nat) : decode (jm_cod M_Ref_isReadRipe) (tab_Ref_isReadRipe.getD i (0, .aload_n 0, 1)).1 = .ok ((tab_Ref_isReadRipe.getD i (0, .aload_n 0, 1)).2.1, (tab_Ref_isReadRipe.getD i (0, .aload_n 0, 1)).2.2) := j_tab (by decide +kernel) i
theorem d_Ref_isReadRipe_0 : decode (jm_cod M_Ref_isReadRipe) 0 = .ok (.aload_n 0, 1) := dt_Ref_isReadRipe 0
theorem d_Ref_isReadRipe_1 : decode (jm_cod M_Ref_isReadRipe) 1 = .ok (.getfield 348, 3) := dt_Ref_isReadRipe 1
theorem d_Ref_isReadRipe_4 : decode (jm_cod M_Ref_isReadRipe) 4 = .ok (.aload_n 0, 1) := dt_Ref_isReadRipe 2
theorem d_Ref_isReadRipe_5 : decode (jm_cod M_Ref_isReadRipe) 5 = .ok (.getfield 196, 3) := dt_Ref_isReadRipe 3
theorem d_Ref_isReadRipe_8 : decode (jm_cod M_Ref_isReadRipe) 8 = .ok (.iload_n 1, 1) := dt_Ref_isReadRipe 4
theorem d_Ref_isReadRipe_9 : decode (jm_cod M_Ref_isReadRipe) 9 = .ok (.iaload, 1) := dt_Ref_isReadRipe 5
theorem d_Ref_isReadRipe_10 : decode (jm_cod M_Ref_isReadRipe) 10 = .ok (.aload_n 0, 1) := dt_Ref_isReadRipe 6
theorem d_Ref_isReadRipe_11 : decode (jm_cod M_Ref_isReadRipe) 11 = .ok (.getfield 23, 3) := dt_Ref_isReadRipe 7
theorem d_Ref_isReadRipe_14 : decode (jm_cod M_Ref_isReadRipe) 14 = .ok (.iload_n 2, 1) := dt_Ref_isReadRipe 8
theorem d_Ref_isReadRipe_15 : decode (jm_cod M_Ref_isReadRipe) 15 = .ok (.iaload, 1) := dt_Ref_isReadRipe 9
theorem d_Ref_isReadRipe_16 : decode (jm_cod M_Ref_isReadRipe) 16 = .ok (.iadd, 1) := dt_Ref_isReadRipe 10
theorem d_Ref_isReadRipe_17 : decode (jm_cod M_Ref_isReadRipe) 17 = .ok (.iconst 1, 1) := dt_Ref_isReadRipe 11
theorem d_Ref_isReadRipe_18 : decode (jm_cod M_Ref_isReadRipe) 18 = .ok (.iadd, 1) := dt_Ref_isReadRipe 12
theorem d_Ref_isReadRipe_19 : decode (jm_cod M_Ref_isReadRipe) 19 = .ok (.if_icmp .lt 7, 3) := dt_Ref_isReadRipe 13
theorem d_Ref_isReadRipe_22 : decode (jm_cod M_Ref_isReadRipe) 22 = .ok (.iconst 1, 1) := dt_Ref_isReadRipe 14
theorem d_Ref_isReadRipe_23 : decode (jm_cod M_Ref_isReadRipe) 23 = .ok (.goto 4, 3) := dt_Ref_isReadRipe 15
theorem d_Ref_isReadRipe_26 : decode (jm_cod M_Ref_isReadRipe) 26 = .ok (.iconst 0, 1) := dt_Ref_isReadRipe 16
theorem d_Ref_isReadRipe_27 : decode (jm_cod M_Ref_isReadRipe) 27 = .ok (.ireturn, 1) := dt_Ref_isReadRipe 17
def tab_Ref_isPort : List (Nat × Instr × Nat) := [(0, .iload_n 1, 1), (1, .iconst 4, 1), (2, .if_icmp .ge 19, 3), (5, .iload_n 1, 1), (6, .aload_n 0, 1), (7, .getfield 290, 3), (10, .if_icmp .ge 7, 3), (13, .iconst 1, 1), (14, .goto 22, 3), (17, .iconst 0, 1), (18, .goto 18, 3), (21, .iload_n 1, 1), (22, .iconst 4, 1), (23, .isub, 1), (24, .aload_n 0, 1), (25, .getfield 294, 3), (28, .if_icmp .ge 7, 3), (31, .iconst 1, 1), (32, .goto 4, 3), (35, .iconst 0, 1), (36, .ireturn, 1)]
theorem dt_Ref_isPort (i : Nat) : decode (jm_cod M_Ref_isPort) (tab_Ref_isPort.getD i (0, .iload_n 1, 1)).1 = .ok ((tab_Ref_isPort.getD i (0, .iload_n 1, 1)).2.1, (tab_Ref_isPort.getD i (0, .iload_n 1, 1)).2.2) := j_tab (by decide +kernel) i
theorem d_Ref_isPort_0 : decode (jm_cod M_Ref_isPort) 0 = .ok (.iload_n 1, 1) := dt_Ref_isPort 0
theorem d_Ref_isPort_1 : decode (jm_cod M_Ref_isPort) 1 = .ok (.iconst 4, 1) := dt_Ref_isPort 1
theorem d_Ref_isPort_2 : decode (jm_cod M_Ref_isPort) 2 = .ok (.if_icmp .ge 19, 3) := dt_Ref_isPort 2
theorem d_Ref_isPort_5 : decode (jm_cod M_Ref_isPort) 5 = .ok (.iload_n 1, 1) := dt_Ref_isPort 3
theorem d_Ref_isPort_6 : decode (jm_cod M_Ref_isPort) 6 = .ok (.aload_n 0, 1) := dt_Ref_isPort 4
theorem d_Ref_isPort_7 : decode (jm_cod M_Ref_isPort) 7 = .ok (.getfield 290, 3) := dt_Ref_isPort 5
theorem d_Ref_isPort_10 : decode (jm_cod M_Ref_isPort) 10 = .ok (.if_icmp .ge 7, 3) := dt_Ref_isPort 6
theorem d_Ref_isPort_13 : decode (jm_cod M_Ref_isPort) 13 = .ok (.iconst 1, 1) := dt_Ref_isPort 7
theorem d_Ref_isPort_14 : decode (jm_cod M_Ref_isPort) 14 = .ok (.goto 22, 3) := dt_Ref_isPort 8
theorem d_Ref_isPort_17 : decode (jm_cod M_Ref_isPort) 17 = .ok (.iconst 0, 1) := dt_Ref_isPort 9
theorem d_Ref_isPort_18 : decode (jm_cod M_Ref_isPort) 18 = .ok (.goto 18, 3) := dt_Ref_isPort 10
theorem d_Ref_isPort_21 : decode (jm_cod M_Ref_isPort) 21 = .ok (.iload_n 1, 1) := dt_Ref_isPort 11
theorem d_Ref_isPort_22 : decode (jm_cod M_Ref_isPort) 22 = .ok (.iconst 4, 1) := dt_Ref_isPort 12
theorem d_Ref_isPort_23 : decode (jm_cod M_Ref_isPort) 23 = .ok (.isub, 1) := dt_Ref_isPort 13
theorem d_Ref_isPort_24 : decode (jm_cod M_Ref_isPort) 24 = .ok (.aload_n 0, 1) := dt_Ref_isPort 14
theorem d_Ref_isPort_25 : decode (jm_cod M_Ref_isPort) 25 = .ok (.getfield 294, 3) := dt_Ref_isPort 15
theorem d_Ref_isPort_28 : decode (jm_cod M_Ref_isPort) 28 = .ok (.if_icmp .ge 7, 3) := dt_Ref_isPort 16
theorem d_Ref_isPort_31 : decode (jm_cod M_Ref_isPort) 31 = .ok (.iconst 1, 1) := dt_Ref_isPort 17
theorem d_Ref_isPort_32 : decode (jm_cod M_Ref_isPort) 32 = .ok (.goto 4, 3) := dt_Ref_isPort 18
theorem d_Ref_isPort_35 : decode (jm_cod M_Ref_isPort) 35 = .ok (.iconst 0, 1) := dt_Ref_isPort 19
theorem d_Ref_isPort_36 : decode (jm_cod M_Ref_isPort) 36 = .ok (.ireturn, 1) := dt_Ref_isPort 20
def tab_Ref_watch : List (Nat × Instr × Nat) := [(0, .iconst 0, 1), (1, .istore 4, 2), (3, .iload 4, 2), (5, .iconst 5, 1), (6, .if_icmp .ge 104, 3), (9, .aload_n 0, 1), (10, .getfield 238, 3), (13, .iload_n 1, 1), (14, .iaload, 1), (15, .ifCond .ne 95, 3), (18, .iload_n 3, 1), (19, .ifCond .eq 15, 3), (22, .aload_n 0, 1), (23, .getfield 274, 3), (26, .iload_n 2, 1), (27, .iload 4, 2), (29, .iadd, 1), (30, .baload, 1), (31, .goto 12, 3), (34, .aload_n 0, 1), (35, .getfield 88, 3), (38, .iload_n 2, 1), (39, .iload 4, 2), (41, .iadd, 1), (42, .baload, 1), (43, .istore 5, 2), (45, .aload_n 0, 1), (46, .iload_n 1, 1), (47, .iload 4, 2), (49, .iload 5, 2), (51, .iload_n 3, 1), (52, .ifCond .eq 15, 3), (55, .aload_n 0, 1), (56, .getfield 280, 3), (59, .iload_n 2, 1), (60, .iload 4, 2), (62, .iadd, 1), (63, .laload, 1), (64, .goto 12, 3), (67, .aload_n 0, 1), (68, .getfield 94, 3), (71, .iload_n 2, 1), (72, .iload 4, 2), (74, .iadd, 1), (75, .laload, 1), (76, .iload_n 3, 1), (77, .ifCond .eq 15, 3), (80, .aload_n 0, 1), (81, .getfield 283, 3), (84, .iload_n 2, 1), (85, .iload 4, 2), (87, .iadd, 1), (88, .iaload, 1), (89, .goto 12, 3), (92, .aload_n 0, 1), (93, .getfield 97, 3), (96, .iload_n 2, 1), (97, .iload 4, 2), (99, .iadd, 1), (100, .iaload, 1), (101, .invokevirtual 441, 3), (104, .iinc 4 1, 3), (107, .goto (-104), 3), (110, .aload_n 0, 1), (111, .getfield 238, 3), (114, .iload_n 1, 1), (115, .iaload, 1), (116, .ifCond .ne 10, 3), (119, .aload_n 0, 1), (120, .iload_n 1, 1), (121, .iload_n 2, 1), (122, .iload_n 3, 1), (123, .invokevirtual 445, 3), (126, .iconst 0, 1), (127, .istore 4, 2), (129, .iload 4, 2), (131, .iconst 5, 1), (132, .if_icmp .ge 161, 3), (135, .iload_n 3, 1), (136, .ifCond .eq 15, 3), (139, .aload_n 0, 1), (140, .getfield 274, 3), (143, .iload_n 2, 1), (144, .iload 4, 2), (146, .iadd, 1), (147, .baload, 1), (148, .goto 12, 3), (151, .aload_n 0, 1), (152, .getfield 88, 3), (155, .iload_n 2, 1), (156, .iload 4, 2), (158, .iadd, 1), (159, .baload, 1), (160, .istore 5, 2), (162, .iload_n 3, 1), (163, .ifCond .eq 15, 3), (166, .aload_n 0, 1), (167, .getfield 277, 3), (170, .iload_n 2, 1), (171, .iload 4, 2), (173, .iadd, 1), (174, .baload, 1), (175, .goto 12, 3), (178, .aload_n 0, 1), (179, .getfield 91, 3), (182, .iload_n 2, 1), (183, .iload 4, 2), (185, .iadd, 1), (186, .baload, 1), (187, .istore 6, 2), (189, .aload_n 0, 1), (190, .getfield 226, 3), (193, .iconst 5, 1), (194, .iload_n 1, 1), (195, .imul, 1), (196, .iload 4, 2), (198, .iadd, 1), (199, .iload 5, 2), (201, .ifCond .eq 12, 3), (204, .iload 6, 2), (206, .ifCond .ne 7, 3), (209, .iconst 1, 1), (210, .goto 4, 3), (213, .iconst 0, 1), (214, .bastore, 1), (215, .aload_n 0, 1), (216, .getfield 229, 3), (219, .iconst 5, 1), (220, .iload_n 1, 1), (221, .imul, 1), (222, .iload 4, 2), (224, .iadd, 1), (225, .iload_n 3, 1), (226, .ifCond .eq 15, 3), (229, .aload_n 0, 1), (230, .getfield 280, 3), (233, .iload_n 2, 1), (234, .iload 4, 2), (236, .iadd, 1), (237, .laload, 1), (238, .goto 12, 3), (241, .aload_n 0, 1), (242, .getfield 94, 3), (245, .iload_n 2, 1), (246, .iload 4, 2), (248, .iadd, 1), (249, .laload, 1), (250, .lastore, 1), (251, .aload_n 0, 1), (252, .getfield 232, 3), (255, .iconst 5, 1), (256, .iload_n 1, 1), (257, .imul, 1), (258, .iload 4, 2), (260, .iadd, 1), (261, .iload_n 3, 1), (262, .ifCond .eq 15, 3), (265, .aload_n 0, 1), (266, .getfield 283, 3), (269, .iload_n 2, 1), (270, .iload 4, 2), (272, .iadd, 1), (273, .iaload, 1), (274, .goto 12, 3), (277, .aload_n 0, 1), (278, .getfield 97, 3), (281, .iload_n 2, 1), (282, .iload 4, 2), (284, .iadd, 1), (285, .iaload, 1), (286, .iastore, 1), (287, .iinc 4 1, 3), (290, .goto (-161), 3), (293, .aload_n 0, 1), (294, .getfield 235, 3), (297, .iload_n 1, 1), (298, .dup2, 1), (299, .iaload, 1), (300, .iconst 1, 1), (301, .iadd, 1), (302, .iastore, 1), (303, .return_, 1)]
theorem dt_Ref_watch (i : Nat) : decode (jm_cod M_Ref_watch) (tab_Ref_watch.getD i (0, .iconst 0, 1)).1 = .ok ((tab_Ref_watch.getD i (0, .iconst 0, 1)).2.1, (tab_Ref_watch.getD i (0, .iconst 0, 1)).2.2) := j_tab (by decide +kernel) i
theorem d_Ref_watch_0 : decode (jm_cod M_Ref_watch) 0 = .ok (.iconst 0, 1) := dt_Ref_watch 0
theorem d_Ref_watch_1 : decode (jm_cod M_Ref_watch) 1 = .ok (.istore 4, 2) := dt_Ref_watch 1
theorem d_Ref_watch_3 : decode (jm_cod M_Ref_watch) 3 = .ok (.iload 4, 2) := dt_Ref_watch 2
theorem d_Ref_watch_5 : decode (jm_cod M_Ref_watch) 5 = .ok (.iconst 5, 1) := dt_Ref_watch 3
theorem d_Ref_watch_6 : decode (jm_cod M_Ref_watch) 6 = .ok (.if_icmp .ge 104, 3) := dt_Ref_watch 4
theorem d_Ref_watch_9 : decode (jm_cod M_Ref_watch) 9 = .ok (.aload_n 0, 1) := dt_Ref_watch 5
theorem d_Ref_watch_10 : decode (jm_cod M_Ref_watch) 10 = .ok (.getfield 238, 3) := dt_Ref_watch 6
theorem d_Ref_watch_13 : decode (jm_cod M_Ref_watch) 13 = .ok (.iload_n 1, 1) := dt_Ref_watch 7
theorem d_Ref_watch_14 : decode (jm_cod M_Ref_watch) 14 = .ok (.iaload, 1) := dt_Ref_watch 8
theorem d_Ref_watch_15 : decode (jm_cod M_Ref_watch) 15 = .ok (.ifCond .ne 95, 3) := dt_Ref_watch 9
theorem d_Ref_watch_18 : decode (jm_cod M_Ref_watch) 18 = .ok (.iload_n 3, 1) := dt_Ref_watch 10
theorem d_Ref_watch_19 : decode (jm_cod M_Ref_watch) 19 = .ok (.ifCond .eq 15, 3) := dt_Ref_watch 11
theorem d_Ref_watch_22 : decode (jm_cod M_Ref_watch) 22 = .ok (.aload_n 0, 1) := dt_Ref_watch 12
theorem d_Ref_watch_23 : decode (jm_cod M_Ref_watch) 23 = .ok (.getfield 274, 3) := dt_Ref_watch 13
theorem d_Ref_watch_26 : decode (jm_cod M_Ref_watch) 26 = .ok (.iload_n 2, 1) := dt_Ref_watch 14
theorem d_Ref_watch_27 : decode (jm_cod M_Ref_watch) 27 = .ok (.iload 4, 2) := dt_Ref_watch 15
theorem d_Ref_watch_29 : decode (jm_cod M_Ref_watch) 29 = .ok (.iadd, 1) := dt_Ref_watch 16
theorem d_Ref_watch_30 : decode (jm_cod M_Ref_watch) 30 = .ok (.baload, 1) := dt_Ref_watch 17
theorem d_Ref_watch_31 : decode (jm_cod M_Ref_watch) 31 = .ok (.goto 12, 3) := dt_Ref_watch 18
theorem d_Ref_watch_34 : decode (jm_cod M_Ref_watch) 34 = .ok (.aload_n 0, 1) := dt_Ref_watch 19
theorem d_Ref_watch_35 : decode (jm_cod M_Ref_watch) 35 = .ok (.getfield 88, 3) := dt_Ref_watch 20
theorem d_Ref_watch_38 : decode (jm_cod M_Ref_watch) 38 = .ok (.iload_n 2, 1) := dt_Ref_watch 21
theorem d_Ref_watch_39 : decode (jm_cod M_Ref_watch) 39 = .ok (.iload 4, 2) := dt_Ref_watch 22
theorem d_Ref_watch_41 : decode (jm_cod M_Ref_watch) 41 = .ok (.iadd, 1) := dt_Ref_watch 23
theorem d_Ref_watch_42 : decode (jm_cod M_Ref_watch) 42 = .ok (.baload, 1) := dt_Ref_watch 24
theorem d_Ref_watch_43 : decode (jm_cod M_Ref_watch) 43 = .ok (.istore 5, 2) := dt_Ref_watch 25
theorem d_Ref_watch_45 : decode (jm_cod M_Ref_watch) 45 = .ok (.aload_n 0, 1) := dt_Ref_watch 26
theorem d_Ref_watch_46 : decode (jm_cod M_Ref_watch) 46 = .ok (.iload_n 1, 1) := dt_Ref_watch 27
theorem d_Ref_watch_47 : decode (jm_cod M_Ref_watch) 47 = .ok (.iload 4, 2) := dt_Ref_watch 28
theorem d_Ref_watch_49 : decode (jm_cod M_Ref_watch) 49 = .ok (.iload 5, 2) := dt_Ref_watch 29
theorem d_Ref_watch_51 : decode (jm_cod M_Ref_watch) 51 = .ok (.iload_n 3, 1) := dt_Ref_watch 30
theorem d_Ref_watch_52 : decode (jm_cod M_Ref_watch) 52 = .ok (.ifCond .eq 15, 3) := dt_Ref_watch 31
theorem d_Ref_watch_55 : decode (jm_cod M_Ref_watch) 55 = .ok (.aload_n 0, 1) := dt_Ref_watch 32
theorem d_Ref_watch_56 : decode (jm_cod M_Ref_watch) 56 = .ok (.getfield 280, 3) := dt_Ref_watch 33
theorem d_Ref_watch_59 : decode (jm_cod M_Ref_watch) 59 = .ok (.iload_n 2, 1) := dt_Ref_watch 34
theorem d_Ref_watch_60 : decode (jm_cod M_Ref_watch) 60 = .ok (.iload 4, 2) := dt_Ref_watch 35
theorem d_Ref_watch_62 : decode (jm_cod M_Ref_watch) 62 = .ok (.iadd, 1) := dt_Ref_watch 36
theorem d_Ref_watch_63 : decode (jm_cod M_Ref_watch) 63 = .ok (.laload, 1) := dt_Ref_watch 37
theorem d_Ref_watch_64 : decode (jm_cod M_Ref_watch) 64 = .ok (.goto 12, 3) := dt_Ref_watch 38
theorem d_Ref_watch_67 : decode (jm_cod M_Ref_watch) 67 = .ok (.aload_n 0, 1) := dt_Ref_watch 39
theorem d_Ref_watch_68 : decode (jm_cod M_Ref_watch) 68 = .ok (.getfield 94, 3) := dt_Ref_watch 40
theorem d_Ref_watch_71 : decode (jm_cod M_Ref_watch) 71 = .ok (.iload_n 2, 1) := dt_Ref_watch 41
theorem d_Ref_watch_72 : decode (jm_cod M_Ref_watch) 72 = .ok (.iload 4, 2) := dt_Ref_watch 42
theorem d_Ref_watch_74 : decode (jm_cod M_Ref_watch) 74 = .ok (.iadd, 1) := dt_Ref_watch 43
theorem d_Ref_watch_75 : decode (jm_cod M_Ref_watch) 75 = .ok (.laload, 1) := dt_Ref_watch 44
theorem d_Ref_watch_76 : decode (jm_cod M_Ref_watch) 76 = .ok (.iload_n 3, 1) := dt_Ref_watch 45
theorem d_Ref_watch_77 : decode (jm_cod M_Ref_watch) 77 = .ok (.ifCond .eq 15, 3) := dt_Ref_watch 46
theorem d_Ref_watch_80 : decode (jm_cod M_Ref_watch) 80 = .ok (.aload_n 0, 1) := dt_Ref_watch 47
theorem d_Ref_watch_81 : decode (jm_cod M_Ref_watch) 81 = .ok (.getfield 283, 3) := dt_Ref_watch 48
theorem d_Ref_watch_84 : decode (jm_cod M_Ref_watch) 84 = .ok (.iload_n 2, 1) := dt_Ref_watch 49
theorem d_Ref_watch_85 : decode (jm_cod M_Ref_watch) 85 = .ok (.iload 4, 2) := dt_Ref_watch 50
theorem d_Ref_watch_87 : decode (jm_cod M_Ref_watch) 87 = .ok (.iadd, 1) := dt_Ref_watch 51
theorem d_Ref_watch_88 : decode (jm_cod M_Ref_watch) 88 = .ok (.iaload, 1) := dt_Ref_watch 52
theorem d_Ref_watch_89 : decode (jm_cod M_Ref_watch) 89 = .ok (.goto 12, 3) := dt_Ref_watch 53
theorem d_Ref_watch_92 : decode (jm_cod M_Ref_watch) 92 = .ok (.aload_n 0, 1) := dt_Ref_watch 54
theorem d_Ref_watch_93 : decode (jm_cod M_Ref_watch) 93 = .ok (.getfield 97, 3) := dt_Ref_watch 55
theorem d_Ref_watch_96 : decode (jm_cod M_Ref_watch) 96 = .ok (.iload_n 2, 1) := dt_Ref_watch 56
theorem d_Ref_watch_97 : decode (jm_cod M_Ref_watch) 97 = .ok (.iload 4, 2) := dt_Ref_watch 57
theorem d_Ref_watch_99 : decode (jm_cod M_Ref_watch) 99 = .ok (.iadd, 1) := dt_Ref_watch 58
theorem d_Ref_watch_100 : decode (jm_cod M_Ref_watch) 100 = .ok (.iaload, 1) := dt_Ref_watch 59
theorem d_Ref_watch_101 : decode (jm_cod M_Ref_watch) 101 = .ok (.invokevirtual 441, 3) := dt_Ref_watch 60
theorem d_Ref_watch_104 : decode (jm_cod M_Ref_watch) 104 = .ok (.iinc 4 1, 3) := dt_Ref_watch 61
theorem d_Ref_watch_107 : decode (jm_cod M_Ref_watch) 107 = .ok (.goto (-104), 3) := dt_Ref_watch 62
theorem d_Ref_watch_110 : decode (jm_cod M_Ref_watch) 110 = .ok (.aload_n 0, 1) := dt_Ref_watch 63
theorem d_Ref_watch_111 : decode (jm_cod M_Ref_watch) 111 = .ok (.getfield 238, 3) := dt_Ref_watch 64
theorem d_Ref_watch_114 : decode (jm_cod M_Ref_watch) 114 = .ok (.iload_n 1, 1) := dt_Ref_watch 65
theorem d_Ref_watch_115 : decode (jm_cod M_Ref_watch) 115 = .ok (.iaload, 1) := dt_Ref_watch 66
theorem d_Ref_watch_116 : decode (jm_cod M_Ref_watch) 116 = .ok (.ifCond .ne 10, 3) := dt_Ref_watch 67
theorem d_Ref_watch_119 : decode (jm_cod M_Ref_watch) 119 = .ok (.aload_n 0, 1) := dt_Ref_watch 68
theorem d_Ref_watch_120 : decode (jm_cod M_Ref_watch) 120 = .ok (.iload_n 1, 1) := dt_Ref_watch 69
theorem d_Ref_watch_121 : decode (jm_cod M_Ref_watch) 121 = .ok (.iload_n 2, 1) := dt_Ref_watch 70
theorem d_Ref_watch_122 : decode (jm_cod M_Ref_watch) 122 = .ok (.iload_n 3, 1) := dt_Ref_watch 71
theorem d_Ref_watch_123 : decode (jm_cod M_Ref_watch) 123 = .ok (.invokevirtual 445, 3) := dt_Ref_watch 72
theorem d_Ref_watch_126 : decode (jm_cod M_Ref_watch) 126 = .ok (.iconst 0, 1) := dt_Ref_watch 73
theorem d_Ref_watch_127 : decode (jm_cod M_Ref_watch) 127 = .ok (.istore 4, 2) := dt_Ref_watch 74
theorem d_Ref_watch_129 : decode (jm_cod M_Ref_watch) 129 = .ok (.iload 4, 2) := dt_Ref_watch 75
theorem d_Ref_watch_131 : decode (jm_cod M_Ref_watch) 131 = .ok (.iconst 5, 1) := dt_Ref_watch 76
theorem d_Ref_watch_132 : decode (jm_cod M_Ref_watch) 132 = .ok (.if_icmp .ge 161, 3) := dt_Ref_watch 77
theorem d_Ref_watch_135 : decode (jm_cod M_Ref_watch) 135 = .ok (.iload_n 3, 1) := dt_Ref_watch 78
theorem d_Ref_watch_136 : decode (jm_cod M_Ref_watch) 136 = .ok (.ifCond .eq 15, 3) := dt_Ref_watch 79
theorem d_Ref_watch_139 : decode (jm_cod M_Ref_watch) 139 = .ok (.aload_n 0, 1) := dt_Ref_watch 80
theorem d_Ref_watch_140 : decode (jm_cod M_Ref_watch) 140 = .ok (.getfield 274, 3) := dt_Ref_watch 81
theorem d_Ref_watch_143 : decode (jm_cod M_Ref_watch) 143 = .ok (.iload_n 2, 1) := dt_Ref_watch 82
theorem d_Ref_watch_144 : decode (jm_cod M_Ref_watch) 144 = .ok (.iload 4, 2) := dt_Ref_watch 83
theorem d_Ref_watch_146 : decode (jm_cod M_Ref_watch) 146 = .ok (.iadd, 1) := dt_Ref_watch 84
theorem d_Ref_watch_147 : decode (jm_cod M_Ref_watch) 147 = .ok (.baload, 1) := dt_Ref_watch 85
theorem d_Ref_watch_148 : decode (jm_cod M_Ref_watch) 148 = .ok (.goto 12, 3) := dt_Ref_watch 86
theorem d_Ref_watch_151 : decode (jm_cod M_Ref_watch) 151 = .ok (.aload_n 0, 1) := dt_Ref_watch 87
theorem d_Ref_watch_152 : decode (jm_cod M_Ref_watch) 152 = .ok (.getfield 88, 3) := dt_Ref_watch 88
theorem d_Ref_watch_155 : decode (jm_cod M_Ref_watch) 155 = .ok (.iload_n 2, 1) := dt_Ref_watch 89
theorem d_Ref_watch_156 : decode (jm_cod M_Ref_watch) 156 = .ok (.iload 4, 2) := dt_Ref_watch 90
theorem d_Ref_watch_158 : decode (jm_cod M_Ref_watch) 158 = .ok (.iadd, 1) := dt_Ref_watch 91
theorem d_Ref_watch_159 : decode (jm_cod M_Ref_watch) 159 = .ok (.baload, 1) := dt_Ref_watch 92
theorem d_Ref_watch_160 : decode (jm_cod M_Ref_watch) 160 = .ok (.istore 5, 2) := dt_Ref_watch 93
theorem d_Ref_watch_162 : decode (jm_cod M_Ref_watch) 162 = .ok (.iload_n 3, 1) := dt_Ref_watch 94
theorem d_Ref_watch_163 : decode (jm_cod M_Ref_watch) 163 = .ok (.ifCond .eq 15, 3) := dt_Ref_watch 95
theorem d_Ref_watch_166 : decode (jm_cod M_Ref_watch) 166 = .ok (.aload_n 0, 1) := dt_Ref_watch 96
theorem d_Ref_watch_167 : decode (jm_cod M_Ref_watch) 167 = .ok (.getfield 277, 3) := dt_Ref_watch 97
theorem d_Ref_watch_170 : decode (jm_cod M_Ref_watch) 170 = .ok (.iload_n 2, 1) := dt_Ref_watch 98
theorem d_Ref_watch_171 : decode (jm_cod M_Ref_watch) 171 = .ok (.iload 4, 2) := dt_Ref_watch 99
theorem d_Ref_watch_173 : decode (jm_cod M_Ref_watch) 173 = .ok (.iadd, 1) := dt_Ref_watch 100
theorem d_Ref_watch_174 : decode (jm_cod M_Ref_watch) 174 = .ok (.baload, 1) := dt_Ref_watch 101
theorem d_Ref_watch_175 : decode (jm_cod M_Ref_watch) 175 = .ok (.goto 12, 3) := dt_Ref_watch 102
theorem d_Ref_watch_178 : decode (jm_cod M_Ref_watch) 178 = .ok (.aload_n 0, 1) := dt_Ref_watch 103
theorem d_Ref_watch_179 : decode (jm_cod M_Ref_watch) 179 = .ok (.getfield 91, 3) := dt_Ref_watch 104
theorem d_Ref_watch_182 : decode (jm_cod M_Ref_watch) 182 = .ok (.iload_n 2, 1) := dt_Ref_watch 105
theorem d_Ref_watch_183 : decode (jm_cod M_Ref_watch) 183 = .ok (.iload 4, 2) := dt_Ref_watch 106
theorem d_Ref_watch_185 : decode (jm_cod M_Ref_watch) 185 = .ok (.iadd, 1) := dt_Ref_watch 107
theorem d_Ref_watch_186 : decode (jm_cod M_Ref_watch) 186 = .ok (.baload, 1) := dt_Ref_watch 108
theorem d_Ref_watch_187 : decode (jm_cod M_Ref_watch) 187 = .ok (.istore 6, 2) := dt_Ref_watch 109
theorem d_Ref_watch_189 : decode (jm_cod M_Ref_watch) 189 = .ok (.aload_n 0, 1) := dt_Ref_watch 110
theorem d_Ref_watch_190 : decode (jm_cod M_Ref_watch) 190 = .ok (.getfield 226, 3) := dt_Ref_watch 111
theorem d_Ref_watch_193 : decode (jm_cod M_Ref_watch) 193 = .ok (.iconst 5, 1) := dt_Ref_watch 112
theorem d_Ref_watch_194 : decode (jm_cod M_Ref_watch) 194 = .ok (.iload_n 1, 1) := dt_Ref_watch 113
theorem d_Ref_watch_195 : decode (jm_cod M_Ref_watch) 195 = .ok (.imul, 1) := dt_Ref_watch 114
theorem d_Ref_watch_196 : decode (jm_cod M_Ref_watch) 196 = .ok (.iload 4, 2) := dt_Ref_watch 115
theorem d_Ref_watch_198 : decode (jm_cod M_Ref_watch) 198 = .ok (.iadd, 1) := dt_Ref_watch 116
theorem d_Ref_watch_199 : decode (jm_cod M_Ref_watch) 199 = .ok (.iload 5, 2) := dt_Ref_watch 117
theorem d_Ref_watch_201 : decode (jm_cod M_Ref_watch) 201 = .ok (.ifCond .eq 12, 3) := dt_Ref_watch 118
theorem d_Ref_watch_204 : decode (jm_cod M_Ref_watch) 204 = .ok (.iload 6, 2) := dt_Ref_watch 119
theorem d_Ref_watch_206 : decode (jm_cod M_Ref_watch) 206 = .ok (.ifCond .ne 7, 3) := dt_Ref_watch 120
theorem d_Ref_watch_209 : decode (jm_cod M_Ref_watch) 209 = .ok (.iconst 1, 1) := dt_Ref_watch 121
theorem d_Ref_watch_210 : decode (jm_cod M_Ref_watch) 210 = .ok (.goto 4, 3) := dt_Ref_watch 122
theorem d_Ref_watch_213 : decode (jm_cod M_Ref_watch) 213 = .ok (.iconst 0, 1) := dt_Ref_watch 123
theorem d_Ref_watch_214 : decode (jm_cod M_Ref_watch) 214 = .ok (.bastore, 1) := dt_Ref_watch 124
theorem d_Ref_watch_215 : decode (jm_cod M_Ref_watch) 215 = .ok (.aload_n 0, 1) := dt_Ref_watch 125
theorem d_Ref_watch_216 : decode (jm_cod M_Ref_watch) 216 = .ok (.getfield 229, 3) := dt_Ref_watch 126
theorem d_Ref_watch_219 : decode (jm_cod M_Ref_watch) 219 = .ok (.iconst 5, 1) := dt_Ref_watch 127
theorem d_Ref_watch_220 : decode (jm_cod M_Ref_watch) 220 = .ok (.iload_n 1, 1) := dt_Ref_watch 128
theorem d_Ref_watch_221 : decode (jm_cod M_Ref_watch) 221 = .ok (.imul, 1) := dt_Ref_watch 129
theorem d_Ref_watch_222 : decode (jm_cod M_Ref_watch) 222 = .ok (.iload 4, 2) := dt_Ref_watch 130
theorem d_Ref_watch_224 : decode (jm_cod M_Ref_watch) 224 = .ok (.iadd, 1) := dt_Ref_watch 131
theorem d_Ref_watch_225 : decode (jm_cod M_Ref_watch) 225 = .ok (.iload_n 3, 1) := dt_Ref_watch 132
theorem d_Ref_watch_226 : decode (jm_cod M_Ref_watch) 226 = .ok (.ifCond .eq 15, 3) := dt_Ref_watch 133
theorem d_Ref_watch_229 : decode (jm_cod M_Ref_watch) 229 = .ok (.aload_n 0, 1) := dt_Ref_watch 134
theorem d_Ref_watch_230 : decode (jm_cod M_Ref_watch) 230 = .ok (.getfield 280, 3) := dt_Ref_watch 135
theorem d_Ref_watch_233 : decode (jm_cod M_Ref_watch) 233 = .ok (.iload_n 2, 1) := dt_Ref_watch 136
theorem d_Ref_watch_234 : decode (jm_cod M_Ref_watch) 234 = .ok (.iload 4, 2) := dt_Ref_watch 137
theorem d_Ref_watch_236 : decode (jm_cod M_Ref_watch) 236 = .ok (.iadd, 1) := dt_Ref_watch 138
theorem d_Ref_watch_237 : decode (jm_cod M_Ref_watch) 237 = .ok (.laload, 1) := dt_Ref_watch 139
theorem d_Ref_watch_238 : decode (jm_cod M_Ref_watch) 238 = .ok (.goto 12, 3) := dt_Ref_watch 140
theorem d_Ref_watch_241 : decode (jm_cod M_Ref_watch) 241 = .ok (.aload_n 0, 1) := dt_Ref_watch 141
theorem d_Ref_watch_242 : decode (jm_cod M_Ref_watch) 242 = .ok (.getfield 94, 3) := dt_Ref_watch 142
theorem d_Ref_watch_245 : decode (jm_cod M_Ref_watch) 245 = .ok (.iload_n 2, 1) := dt_Ref_watch 143
theorem d_Ref_watch_246 : decode (jm_cod M_Ref_watch) 246 = .ok (.iload 4, 2) := dt_Ref_watch 144
theorem d_Ref_watch_248 : decode (jm_cod M_Ref_watch) 248 = .ok (.iadd, 1) := dt_Ref_watch 145
theorem d_Ref_watch_249 : decode (jm_cod M_Ref_watch) 249 = .ok (.laload, 1) := dt_Ref_watch 146
theorem d_Ref_watch_250 : decode (jm_cod M_Ref_watch) 250 = .ok (.lastore, 1) := dt_Ref_watch 147
theorem d_Ref_watch_251 : decode (jm_cod M_Ref_watch) 251 = .ok (.aload_n 0, 1) := dt_Ref_watch 148
theorem d_Ref_watch_252 : decode (jm_cod M_Ref_watch) 252 = .ok (.getfield 232, 3) := dt_Ref_watch 149
theorem d_Ref_watch_255 : decode (jm_cod M_Ref_watch) 255 = .ok (.iconst 5, 1) := dt_Ref_watch 150
theorem d_Ref_watch_256 : decode (jm_cod M_Ref_watch) 256 = .ok (.iload_n 1, 1) := dt_Ref_watch 151
theorem d_Ref_watch_257 : decode (jm_cod M_Ref_watch) 257 = .ok (.imul, 1) := dt_Ref_watch 152
theorem d_Ref_watch_258 : decode (jm_cod M_Ref_watch) 258 = .ok (.iload 4, 2) := dt_Ref_watch 153
theorem d_Ref_watch_260 : decode (jm_cod M_Ref_watch) 260 = .ok (.iadd, 1) := dt_Ref_watch 154
theorem d_Ref_watch_261 : decode (jm_cod M_Ref_watch) 261 = .ok (.iload_n 3, 1) := dt_Ref_watch 155
theorem d_Ref_watch_262 : decode (jm_cod M_Ref_watch) 262 = .ok (.ifCond .eq 15, 3) := dt_Ref_watch 156
theorem d_Ref_watch_265 : decode (jm_cod M_Ref_watch) 265 = .ok (.aload_n 0, 1) := dt_Ref_watch 157
theorem d_Ref_watch_266 : decode (jm_cod M_Ref_watch) 266 = .ok (.getfield 283, 3) := dt_Ref_watch 158
theorem d_Ref_watch_269 : decode (jm_cod M_Ref_watch) 269 = .ok (.iload_n 2, 1) := dt_Ref_watch 159
theorem d_Ref_watch_270 : decode (jm_cod M_Ref_watch) 270 = .ok (.iload 4, 2) := dt_Ref_watch 160
theorem d_Ref_watch_272 : decode (jm_cod M_Ref_watch) 272 = .ok (.iadd, 1) := dt_Ref_watch 161
theorem d_Ref_watch_273 : decode (jm_cod M_Ref_watch) 273 = .ok (.iaload, 1) := dt_Ref_watch 162
theorem d_Ref_watch_274 : decode (jm_cod M_Ref_watch) 274 = .ok (.goto 12, 3) := dt_Ref_watch 163
theorem d_Ref_watch_277 : decode (jm_cod M_Ref_watch) 277 = .ok (.aload_n 0, 1) := dt_Ref_watch 164
theorem d_Ref_watch_278 : decode (jm_cod M_Ref_watch) 278 = .ok (.getfield 97, 3) := dt_Ref_watch 165
theorem d_Ref_watch_281 : decode (jm_cod M_Ref_watch) 281 = .ok (.iload_n 2, 1) := dt_Ref_watch 166
theorem d_Ref_watch_282 : decode (jm_cod M_Ref_watch) 282 = .ok (.iload 4, 2) := dt_Ref_watch 167
theorem d_Ref_watch_284 : decode (jm_cod M_Ref_watch) 284 = .ok (.iadd, 1) := dt_Ref_watch 168
theorem d_Ref_watch_285 : decode (jm_cod M_Ref_watch) 285 = .ok (.iaload, 1) := dt_Ref_watch 169
theorem d_Ref_watch_286 : decode (jm_cod M_Ref_watch) 286 = .ok (.iastore, 1) := dt_Ref_watch 170
theorem d_Ref_watch_287 : decode (jm_cod M_Ref_watch) 287 = .ok (.iinc 4 1, 3) := dt_Ref_watch 171
theorem d_Ref_watch_290 : decode (jm_cod M_Ref_watch) 290 = .ok (.goto (-161), 3) := dt_Ref_watch 172
theorem d_Ref_watch_293 : decode (jm_cod M_Ref_watch) 293 = .ok (.aload_n 0, 1) := dt_Ref_watch 173
theorem d_Ref_watch_294 : decode (jm_cod M_Ref_watch) 294 = .ok (.getfield 235, 3) := dt_Ref_watch 174
theorem d_Ref_watch_297 : decode (jm_cod M_Ref_watch) 297 = .ok (.iload_n 1, 1) := dt_Ref_watch 175
theorem d_Ref_watch_298 : decode (jm_cod M_Ref_watch) 298 = .ok (.dup2, 1) := dt_Ref_watch 176
theorem d_Ref_watch_299 : decode (jm_cod M_Ref_watch) 299 = .ok (.iaload, 1) := dt_Ref_watch 177
theorem d_Ref_watch_300 : decode (jm_cod M_Ref_watch) 300 = .ok (.iconst 1, 1) := dt_Ref_watch 178
theorem d_Ref_watch_301 : decode (jm_cod M_Ref_watch) 301 = .ok (.iadd, 1) := dt_Ref_watch 179
theorem d_Ref_watch_302 : decode (jm_cod M_Ref_watch) 302 = .ok (.iastore, 1) := dt_Ref_watch 180
theorem d_Ref_watch_303 : decode (jm_cod M_Ref_watch) 303 = .ok (.return_, 1) := dt_Ref_watch 181
def tab_Ref_lookAt : List (Nat × Instr × Nat) := [(0, .iconst 5, 1), (1, .iload_n 1, 1), (2, .imul, 1), (3, .iload_n 2, 1), (4, .iadd, 1), (5, .istore 7, 2), (7, .aload_n 0, 1), (8, .getfield 226, 3), (11, .iload 7, 2), (13, .baload, 1), (14, .ifCond .eq 50, 3), (17, .iload_n 3, 1), (18, .ifCond .ne 13, 3), (21, .aload_n 0, 1), (22, .iload_n 1, 1), (23, .iconst 1, 1), (24, .iload_n 2, 1), (25, .invokevirtual 415, 3), (28, .goto 35, 3), (31, .lload 4, 2), (33, .aload_n 0, 1), (34, .getfield 229, 3), (37, .iload 7, 2), (39, .laload, 1), (40, .lcmp, 1), (41, .ifCond .ne 15, 3), (44, .iload 6, 2), (46, .aload_n 0, 1), (47, .getfield 232, 3), (50, .iload 7, 2), (52, .iaload, 1), (53, .if_icmp .eq 10, 3), (56, .aload_n 0, 1), (57, .iload_n 1, 1), (58, .iconst 2, 1), (59, .iload_n 2, 1), (60, .invokevirtual 415, 3), (63, .return_, 1), (64, .iload_n 3, 1), (65, .ifCond .ne 4, 3), (68, .return_, 1), (69, .iload 6, 2), (71, .bipush 63, 2), (73, .iand, 1), (74, .istore 8, 2), (76, .iload 6, 2), (78, .bipush 6, 2), (80, .ishr, 1), (81, .iconst 3, 1), (82, .iand, 1), (83, .istore 9, 2), (85, .iload_n 2, 1), (86, .ifCond .eq 8, 3), (89, .iload_n 2, 1), (90, .iconst 3, 1), (91, .if_icmp .ne 26, 3), (94, .lload 4, 2), (96, .invokestatic 419, 3), (99, .istore 10, 2), (101, .iload 10, 2), (103, .ifCond .le 11, 3), (106, .aload_n 0, 1), (107, .iload_n 1, 1), (108, .iload 10, 2), (110, .iload_n 2, 1), (111, .invokevirtual 415, 3), (114, .goto 177, 3), (117, .iload_n 2, 1), (118, .iconst 2, 1), (119, .if_icmp .ne 59, 3), (122, .aload_n 0, 1), (123, .iload_n 1, 1), (124, .iload 8, 2), (126, .invokevirtual 422, 3), (129, .istore 10, 2), (131, .iload 10, 2), (133, .iconst (-1), 1), (134, .if_icmp .ne 14, 3), (137, .aload_n 0, 1), (138, .iload_n 1, 1), (139, .bipush 9, 2), (141, .iload_n 2, 1), (142, .invokevirtual 415, 3), (145, .goto 30, 3), (148, .iload 9, 2), (150, .iconst 1, 1), (151, .if_icmp .ne 24, 3), (154, .aload_n 0, 1), (155, .getfield 256, 3), (158, .iload 10, 2), (160, .laload, 1), (161, .invokestatic 329, 3), (164, .ifCond .ne 11, 3), (167, .aload_n 0, 1), (168, .iload_n 1, 1), (169, .bipush 11, 2), (171, .iload_n 2, 1), (172, .invokevirtual 415, 3), (175, .goto 116, 3), (178, .iload_n 2, 1), (179, .iconst 4, 1), (180, .if_icmp .ne 111, 3), (183, .aload_n 0, 1), (184, .iload_n 1, 1), (185, .iload 8, 2), (187, .invokevirtual 425, 3), (190, .istore 10, 2), (192, .iload 10, 2), (194, .iconst (-1), 1), (195, .if_icmp .ne 14, 3), (198, .aload_n 0, 1), (199, .iload_n 1, 1), (200, .bipush 10, 2), (202, .iload_n 2, 1), (203, .invokevirtual 415, 3), (206, .goto 85, 3), (209, .aload_n 0, 1), (210, .getfield 271, 3), (213, .iload 10, 2), (215, .iaload, 1), (216, .aload_n 0, 1), (217, .getfield 268, 3), (220, .iload 10, 2), (222, .laload, 1), (223, .invokestatic 321, 3), (226, .iconst 1, 1), (227, .isub, 1), (228, .if_icmp .ne 7, 3), (231, .iconst 1, 1), (232, .goto 4, 3), (235, .iconst 0, 1), (236, .iload 6, 2), (238, .sipush 256, 3), (241, .iand, 1), (242, .ifCond .eq 7, 3), (245, .iconst 1, 1), (246, .goto 4, 3), (249, .iconst 0, 1), (250, .if_icmp .eq 14, 3), (253, .aload_n 0, 1), (254, .iload_n 1, 1), (255, .bipush 7, 2), (257, .iload_n 2, 1), (258, .invokevirtual 415, 3), (261, .goto 30, 3), (264, .iload 9, 2), (266, .iconst 1, 1), (267, .if_icmp .ne 24, 3), (270, .aload_n 0, 1), (271, .getfield 268, 3), (274, .iload 10, 2), (276, .laload, 1), (277, .invokestatic 329, 3), (280, .ifCond .ne 11, 3), (283, .aload_n 0, 1), (284, .iload_n 1, 1), (285, .bipush 11, 2), (287, .iload_n 2, 1), (288, .invokevirtual 415, 3), (291, .return_, 1)]
theorem dt_Ref_lookAt (i : Nat) : decode (jm_cod M_Ref_lookAt) (tab_Ref_lookAt.getD i (0, .iconst 5, 1)).1 = .ok ((tab_Ref_lookAt.getD i (0, .iconst 5, 1)).2.1, (tab_Ref_lookAt.getD i (0, .iconst 5, 1)).2.2) := j_tab (by decide +kernel) i
theorem d_Ref_lookAt_0 : decode (jm_cod M_Ref_lookAt) 0 = .ok (.iconst 5, 1) := dt_Ref_lookAt 0
theorem d_Ref_lookAt_1 : decode (jm_cod M_Ref_lookAt) 1 = .ok (.iload_n 1, 1) := dt_Ref_lookAt 1
theorem d_Ref_lookAt_2 : decode (jm_cod M_Ref_lookAt) 2 = .ok (.imul, 1) := dt_Ref_lookAt 2
theorem d_Ref_lookAt_3 : decode (jm_cod M_Ref_lookAt) 3 = .ok (.iload_n 2, 1) := dt_Ref_lookAt 3
theorem d_Ref_lookAt_4 : decode (jm_cod M_Ref_lookAt) 4 = .ok (.iadd, 1) := dt_Ref_lookAt 4
theorem d_Ref_lookAt_5 : decode (jm_cod M_Ref_lookAt) 5 = .ok (.istore 7, 2) := dt_Ref_lookAt 5
theorem d_Ref_lookAt_7 : decode (jm_cod M_Ref_lookAt) 7 = .ok (.aload_n 0, 1) := dt_Ref_lookAt 6
theorem d_Ref_lookAt_8 : decode (jm_cod M_Ref_lookAt) 8 = .ok (.getfield 226, 3) := dt_Ref_lookAt 7
theorem d_Ref_lookAt_11 : decode (jm_cod M_Ref_lookAt) 11 = .ok (.iload 7, 2) := dt_Ref_lookAt 8
theorem d_Ref_lookAt_13 : decode (jm_cod M_Ref_lookAt) 13 = .ok (.baload, 1) := dt_Ref_lookAt 9
theorem d_Ref_lookAt_14 : decode (jm_cod M_Ref_lookAt) 14 = .ok (.ifCond .eq 50, 3) := dt_Ref_lookAt 10
theorem d_Ref_lookAt_17 : decode (jm_cod M_Ref_lookAt) 17 = .ok (.iload_n 3, 1) := dt_Ref_lookAt 11
theorem d_Ref_lookAt_18 : decode (jm_cod M_Ref_lookAt) 18 = .ok (.ifCond .ne 13, 3) := dt_Ref_lookAt 12
theorem d_Ref_lookAt_21 : decode (jm_cod M_Ref_lookAt) 21 = .ok (.aload_n 0, 1) := dt_Ref_lookAt 13
theorem d_Ref_lookAt_22 : decode (jm_cod M_Ref_lookAt) 22 = .ok (.iload_n 1, 1) := dt_Ref_lookAt 14
theorem d_Ref_lookAt_23 : decode (jm_cod M_Ref_lookAt) 23 = .ok (.iconst 1, 1) := dt_Ref_lookAt 15
theorem d_Ref_lookAt_24 : decode (jm_cod M_Ref_lookAt) 24 = .ok (.iload_n 2, 1) := dt_Ref_lookAt 16
theorem d_Ref_lookAt_25 : decode (jm_cod M_Ref_lookAt) 25 = .ok (.invokevirtual 415, 3) := dt_Ref_lookAt 17
theorem d_Ref_lookAt_28 : decode (jm_cod M_Ref_lookAt) 28 = .ok (.goto 35, 3) := dt_Ref_lookAt 18
theorem d_Ref_lookAt_31 : decode (jm_cod M_Ref_lookAt) 31 = .ok (.lload 4, 2) := dt_Ref_lookAt 19
theorem d_Ref_lookAt_33 : decode (jm_cod M_Ref_lookAt) 33 = .ok (.aload_n 0, 1) := dt_Ref_lookAt 20
theorem d_Ref_lookAt_34 : decode (jm_cod M_Ref_lookAt) 34 = .ok (.getfield 229, 3) := dt_Ref_lookAt 21
theorem d_Ref_lookAt_37 : decode (jm_cod M_Ref_lookAt) 37 = .ok (.iload 7, 2) := dt_Ref_lookAt 22
theorem d_Ref_lookAt_39 : decode (jm_cod M_Ref_lookAt) 39 = .ok (.laload, 1) := dt_Ref_lookAt 23
theorem d_Ref_lookAt_40 : decode (jm_cod M_Ref_lookAt) 40 = .ok (.lcmp, 1) := dt_Ref_lookAt 24
theorem d_Ref_lookAt_41 : decode (jm_cod M_Ref_lookAt) 41 = .ok (.ifCond .ne 15, 3) := dt_Ref_lookAt 25
theorem d_Ref_lookAt_44 : decode (jm_cod M_Ref_lookAt) 44 = .ok (.iload 6, 2) := dt_Ref_lookAt 26
theorem d_Ref_lookAt_46 : decode (jm_cod M_Ref_lookAt) 46 = .ok (.aload_n 0, 1) := dt_Ref_lookAt 27
theorem d_Ref_lookAt_47 : decode (jm_cod M_Ref_lookAt) 47 = .ok (.getfield 232, 3) := dt_Ref_lookAt 28
theorem d_Ref_lookAt_50 : decode (jm_cod M_Ref_lookAt) 50 = .ok (.iload 7, 2) := dt_Ref_lookAt 29
theorem d_Ref_lookAt_52 : decode (jm_cod M_Ref_lookAt) 52 = .ok (.iaload, 1) := dt_Ref_lookAt 30
theorem d_Ref_lookAt_53 : decode (jm_cod M_Ref_lookAt) 53 = .ok (.if_icmp .eq 10, 3) := dt_Ref_lookAt 31
theorem d_Ref_lookAt_56 : decode (jm_cod M_Ref_lookAt) 56 = .ok (.aload_n 0, 1) := dt_Ref_lookAt 32
theorem d_Ref_lookAt_57 : decode (jm_cod M_Ref_lookAt) 57 = .ok (.iload_n 1, 1) := dt_Ref_lookAt 33
theorem d_Ref_lookAt_58 : decode (jm_cod M_Ref_lookAt) 58 = .ok (.iconst 2, 1) := dt_Ref_lookAt 34
theorem d_Ref_lookAt_59 : decode (jm_cod M_Ref_lookAt) 59 = .ok (.iload_n 2, 1) := dt_Ref_lookAt 35
theorem d_Ref_lookAt_60 : decode (jm_cod M_Ref_lookAt) 60 = .ok (.invokevirtual 415, 3) := dt_Ref_lookAt 36
theorem d_Ref_lookAt_63 : decode (jm_cod M_Ref_lookAt) 63 = .ok (.return_, 1) := dt_Ref_lookAt 37
theorem d_Ref_lookAt_64 : decode (jm_cod M_Ref_lookAt) 64 = .ok (.iload_n 3, 1) := dt_Ref_lookAt 38
theorem d_Ref_lookAt_65 : decode (jm_cod M_Ref_lookAt) 65 = .ok (.ifCond .ne 4, 3) := dt_Ref_lookAt 39
theorem d_Ref_lookAt_68 : decode (jm_cod M_Ref_lookAt) 68 = .ok (.return_, 1) := dt_Ref_lookAt 40
theorem d_Ref_lookAt_69 : decode (jm_cod M_Ref_lookAt) 69 = .ok (.iload 6, 2) := dt_Ref_lookAt 41
theorem d_Ref_lookAt_71 : decode (jm_cod M_Ref_lookAt) 71 = .ok (.bipush 63, 2) := dt_Ref_lookAt 42
theorem d_Ref_lookAt_73 : decode (jm_cod M_Ref_lookAt) 73 = .ok (.iand, 1) := dt_Ref_lookAt 43
theorem d_Ref_lookAt_74 : decode (jm_cod M_Ref_lookAt) 74 = .ok (.istore 8, 2) := dt_Ref_lookAt 44
theorem d_Ref_lookAt_76 : decode (jm_cod M_Ref_lookAt) 76 = .ok (.iload 6, 2) := dt_Ref_lookAt 45
theorem d_Ref_lookAt_78 : decode (jm_cod M_Ref_lookAt) 78 = .ok (.bipush 6, 2) := dt_Ref_lookAt 46
theorem d_Ref_lookAt_80 : decode (jm_cod M_Ref_lookAt) 80 = .ok (.ishr, 1) := dt_Ref_lookAt 47
theorem d_Ref_lookAt_81 : decode (jm_cod M_Ref_lookAt) 81 = .ok (.iconst 3, 1) := dt_Ref_lookAt 48
theorem d_Ref_lookAt_82 : decode (jm_cod M_Ref_lookAt) 82 = .ok (.iand, 1) := dt_Ref_lookAt 49
theorem d_Ref_lookAt_83 : decode (jm_cod M_Ref_lookAt) 83 = .ok (.istore 9, 2) := dt_Ref_lookAt 50
theorem d_Ref_lookAt_85 : decode (jm_cod M_Ref_lookAt) 85 = .ok (.iload_n 2, 1) := dt_Ref_lookAt 51
theorem d_Ref_lookAt_86 : decode (jm_cod M_Ref_lookAt) 86 = .ok (.ifCond .eq 8, 3) := dt_Ref_lookAt 52
theorem d_Ref_lookAt_89 : decode (jm_cod M_Ref_lookAt) 89 = .ok (.iload_n 2, 1) := dt_Ref_lookAt 53
theorem d_Ref_lookAt_90 : decode (jm_cod M_Ref_lookAt) 90 = .ok (.iconst 3, 1) := dt_Ref_lookAt 54
theorem d_Ref_lookAt_91 : decode (jm_cod M_Ref_lookAt) 91 = .ok (.if_icmp .ne 26, 3) := dt_Ref_lookAt 55
theorem d_Ref_lookAt_94 : decode (jm_cod M_Ref_lookAt) 94 = .ok (.lload 4, 2) := dt_Ref_lookAt 56
theorem d_Ref_lookAt_96 : decode (jm_cod M_Ref_lookAt) 96 = .ok (.invokestatic 419, 3) := dt_Ref_lookAt 57
theorem d_Ref_lookAt_99 : decode (jm_cod M_Ref_lookAt) 99 = .ok (.istore 10, 2) := dt_Ref_lookAt 58
theorem d_Ref_lookAt_101 : decode (jm_cod M_Ref_lookAt) 101 = .ok (.iload 10, 2) := dt_Ref_lookAt 59
theorem d_Ref_lookAt_103 : decode (jm_cod M_Ref_lookAt) 103 = .ok (.ifCond .le 11, 3) := dt_Ref_lookAt 60
theorem d_Ref_lookAt_106 : decode (jm_cod M_Ref_lookAt) 106 = .ok (.aload_n 0, 1) := dt_Ref_lookAt 61
theorem d_Ref_lookAt_107 : decode (jm_cod M_Ref_lookAt) 107 = .ok (.iload_n 1, 1) := dt_Ref_lookAt 62
theorem d_Ref_lookAt_108 : decode (jm_cod M_Ref_lookAt) 108 = .ok (.iload 10, 2) := dt_Ref_lookAt 63
theorem d_Ref_lookAt_110 : decode (jm_cod M_Ref_lookAt) 110 = .ok (.iload_n 2, 1) := dt_Ref_lookAt 64
theorem d_Ref_lookAt_111 : decode (jm_cod M_Ref_lookAt) 111 = .ok (.invokevirtual 415, 3) := dt_Ref_lookAt 65
theorem d_Ref_lookAt_114 : decode (jm_cod M_Ref_lookAt) 114 = .ok (.goto 177, 3) := dt_Ref_lookAt 66
theorem d_Ref_lookAt_117 : decode (jm_cod M_Ref_lookAt) 117 = .ok (.iload_n 2, 1) := dt_Ref_lookAt 67
theorem d_Ref_lookAt_118 : decode (jm_cod M_Ref_lookAt) 118 = .ok (.iconst 2, 1) := dt_Ref_lookAt 68
theorem d_Ref_lookAt_119 : decode (jm_cod M_Ref_lookAt) 119 = .ok (.if_icmp .ne 59, 3) := dt_Ref_lookAt 69
theorem d_Ref_lookAt_122 : decode (jm_cod M_Ref_lookAt) 122 = .ok (.aload_n 0, 1) := dt_Ref_lookAt 70
theorem d_Ref_lookAt_123 : decode (jm_cod M_Ref_lookAt) 123 = .ok (.iload_n 1, 1) := dt_Ref_lookAt 71
theorem d_Ref_lookAt_124 : decode (jm_cod M_Ref_lookAt) 124 = .ok (.iload 8, 2) := dt_Ref_lookAt 72
theorem d_Ref_lookAt_126 : decode (jm_cod M_Ref_lookAt) 126 = .ok (.invokevirtual 422, 3) := dt_Ref_lookAt 73
theorem d_Ref_lookAt_129 : decode (jm_cod M_Ref_lookAt) 129 = .ok (.istore 10, 2) := dt_Ref_lookAt 74
theorem d_Ref_lookAt_131 : decode (jm_cod M_Ref_lookAt) 131 = .ok (.iload 10, 2) := dt_Ref_lookAt 75
theorem d_Ref_lookAt_133 : decode (jm_cod M_Ref_lookAt) 133 = .ok (.iconst (-1), 1) := dt_Ref_lookAt 76
theorem d_Ref_lookAt_134 : decode (jm_cod M_Ref_lookAt) 134 = .ok (.if_icmp .ne 14, 3) := dt_Ref_lookAt 77
theorem d_Ref_lookAt_137 : decode (jm_cod M_Ref_lookAt) 137 = .ok (.aload_n 0, 1) := dt_Ref_lookAt 78
theorem d_Ref_lookAt_138 : decode (jm_cod M_Ref_lookAt) 138 = .ok (.iload_n 1, 1) := dt_Ref_lookAt 79
theorem d_Ref_lookAt_139 : decode (jm_cod M_Ref_lookAt) 139 = .ok (.bipush 9, 2) := dt_Ref_lookAt 80
theorem d_Ref_lookAt_141 : decode (jm_cod M_Ref_lookAt) 141 = .ok (.iload_n 2, 1) := dt_Ref_lookAt 81
theorem d_Ref_lookAt_142 : decode (jm_cod M_Ref_lookAt) 142 = .ok (.invokevirtual 415, 3) := dt_Ref_lookAt 82
theorem d_Ref_lookAt_145 : decode (jm_cod M_Ref_lookAt) 145 = .ok (.goto 30, 3) := dt_Ref_lookAt 83
theorem d_Ref_lookAt_148 : decode (jm_cod M_Ref_lookAt) 148 = .ok (.iload 9, 2) := dt_Ref_lookAt 84
theorem d_Ref_lookAt_150 : decode (jm_cod M_Ref_lookAt) 150 = .ok (.iconst 1, 1) := dt_Ref_lookAt 85
theorem d_Ref_lookAt_151 : decode (jm_cod M_Ref_lookAt) 151 = .ok (.if_icmp .ne 24, 3) := dt_Ref_lookAt 86
theorem d_Ref_lookAt_154 : decode (jm_cod M_Ref_lookAt) 154 = .ok (.aload_n 0, 1) := dt_Ref_lookAt 87
theorem d_Ref_lookAt_155 : decode (jm_cod M_Ref_lookAt) 155 = .ok (.getfield 256, 3) := dt_Ref_lookAt 88
theorem d_Ref_lookAt_158 : decode (jm_cod M_Ref_lookAt) 158 = .ok (.iload 10, 2) := dt_Ref_lookAt 89
theorem d_Ref_lookAt_160 : decode (jm_cod M_Ref_lookAt) 160 = .ok (.laload, 1) := dt_Ref_lookAt 90
theorem d_Ref_lookAt_161 : decode (jm_cod M_Ref_lookAt) 161 = .ok (.invokestatic 329, 3) := dt_Ref_lookAt 91
theorem d_Ref_lookAt_164 : decode (jm_cod M_Ref_lookAt) 164 = .ok (.ifCond .ne 11, 3) := dt_Ref_lookAt 92
theorem d_Ref_lookAt_167 : decode (jm_cod M_Ref_lookAt) 167 = .ok (.aload_n 0, 1) := dt_Ref_lookAt 93
theorem d_Ref_lookAt_168 : decode (jm_cod M_Ref_lookAt) 168 = .ok (.iload_n 1, 1) := dt_Ref_lookAt 94
theorem d_Ref_lookAt_169 : decode (jm_cod M_Ref_lookAt) 169 = .ok (.bipush 11, 2) := dt_Ref_lookAt 95
theorem d_Ref_lookAt_171 : decode (jm_cod M_Ref_lookAt) 171 = .ok (.iload_n 2, 1) := dt_Ref_lookAt 96
theorem d_Ref_lookAt_172 : decode (jm_cod M_Ref_lookAt) 172 = .ok (.invokevirtual 415, 3) := dt_Ref_lookAt 97
theorem d_Ref_lookAt_175 : decode (jm_cod M_Ref_lookAt) 175 = .ok (.goto 116, 3) := dt_Ref_lookAt 98
theorem d_Ref_lookAt_178 : decode (jm_cod M_Ref_lookAt) 178 = .ok (.iload_n 2, 1) := dt_Ref_lookAt 99
theorem d_Ref_lookAt_179 : decode (jm_cod M_Ref_lookAt) 179 = .ok (.iconst 4, 1) := dt_Ref_lookAt 100
theorem d_Ref_lookAt_180 : decode (jm_cod M_Ref_lookAt) 180 = .ok (.if_icmp .ne 111, 3) := dt_Ref_lookAt 101
theorem d_Ref_lookAt_183 : decode (jm_cod M_Ref_lookAt) 183 = .ok (.aload_n 0, 1) := dt_Ref_lookAt 102
theorem d_Ref_lookAt_184 : decode (jm_cod M_Ref_lookAt) 184 = .ok (.iload_n 1, 1) := dt_Ref_lookAt 103
theorem d_Ref_lookAt_185 : decode (jm_cod M_Ref_lookAt) 185 = .ok (.iload 8, 2) := dt_Ref_lookAt 104
theorem d_Ref_lookAt_187 : decode (jm_cod M_Ref_lookAt) 187 = .ok (.invokevirtual 425, 3) := dt_Ref_lookAt 105
theorem d_Ref_lookAt_190 : decode (jm_cod M_Ref_lookAt) 190 = .ok (.istore 10, 2) := dt_Ref_lookAt 106
theorem d_Ref_lookAt_192 : decode (jm_cod M_Ref_lookAt) 192 = .ok (.iload 10, 2) := dt_Ref_lookAt 107
theorem d_Ref_lookAt_194 : decode (jm_cod M_Ref_lookAt) 194 = .ok (.iconst (-1), 1) := dt_Ref_lookAt 108
theorem d_Ref_lookAt_195 : decode (jm_cod M_Ref_lookAt) 195 = .ok (.if_icmp .ne 14, 3) := dt_Ref_lookAt 109
theorem d_Ref_lookAt_198 : decode (jm_cod M_Ref_lookAt) 198 = .ok (.aload_n 0, 1) := dt_Ref_lookAt 110
theorem d_Ref_lookAt_199 : decode (jm_cod M_Ref_lookAt) 199 = .ok (.iload_n 1, 1) := dt_Ref_lookAt 111
theorem d_Ref_lookAt_200 : decode (jm_cod M_Ref_lookAt) 200 = .ok (.bipush 10, 2) := dt_Ref_lookAt 112
theorem d_Ref_lookAt_202 : decode (jm_cod M_Ref_lookAt) 202 = .ok (.iload_n 2, 1) := dt_Ref_lookAt 113
theorem d_Ref_lookAt_203 : decode (jm_cod M_Ref_lookAt) 203 = .ok (.invokevirtual 415, 3) := dt_Ref_lookAt 114
theorem d_Ref_lookAt_206 : decode (jm_cod M_Ref_lookAt) 206 = .ok (.goto 85, 3) := dt_Ref_lookAt 115
theorem d_Ref_lookAt_209 : decode (jm_cod M_Ref_lookAt) 209 = .ok (.aload_n 0, 1) := dt_Ref_lookAt 116
theorem d_Ref_lookAt_210 : decode (jm_cod M_Ref_lookAt) 210 = .ok (.getfield 271, 3) := dt_Ref_lookAt 117
theorem d_Ref_lookAt_213 : decode (jm_cod M_Ref_lookAt) 213 = .ok (.iload 10, 2) := dt_Ref_lookAt 118
theorem d_Ref_lookAt_215 : decode (jm_cod M_Ref_lookAt) 215 = .ok (.iaload, 1) := dt_Ref_lookAt 119
theorem d_Ref_lookAt_216 : decode (jm_cod M_Ref_lookAt) 216 = .ok (.aload_n 0, 1) := dt_Ref_lookAt 120
theorem d_Ref_lookAt_217 : decode (jm_cod M_Ref_lookAt) 217 = .ok (.getfield 268, 3) := dt_Ref_lookAt 121
theorem d_Ref_lookAt_220 : decode (jm_cod M_Ref_lookAt) 220 = .ok (.iload 10, 2) := dt_Ref_lookAt 122
theorem d_Ref_lookAt_222 : decode (jm_cod M_Ref_lookAt) 222 = .ok (.laload, 1) := dt_Ref_lookAt 123
theorem d_Ref_lookAt_223 : decode (jm_cod M_Ref_lookAt) 223 = .ok (.invokestatic 321, 3) := dt_Ref_lookAt 124
theorem d_Ref_lookAt_226 : decode (jm_cod M_Ref_lookAt) 226 = .ok (.iconst 1, 1) := dt_Ref_lookAt 125
theorem d_Ref_lookAt_227 : decode (jm_cod M_Ref_lookAt) 227 = .ok (.isub, 1) := dt_Ref_lookAt 126
theorem d_Ref_lookAt_228 : decode (jm_cod M_Ref_lookAt) 228 = .ok (.if_icmp .ne 7, 3) := dt_Ref_lookAt 127
theorem d_Ref_lookAt_231 : decode (jm_cod M_Ref_lookAt) 231 = .ok (.iconst 1, 1) := dt_Ref_lookAt 128
theorem d_Ref_lookAt_232 : decode (jm_cod M_Ref_lookAt) 232 = .ok (.goto 4, 3) := dt_Ref_lookAt 129
theorem d_Ref_lookAt_235 : decode (jm_cod M_Ref_lookAt) 235 = .ok (.iconst 0, 1) := dt_Ref_lookAt 130
theorem d_Ref_lookAt_236 : decode (jm_cod M_Ref_lookAt) 236 = .ok (.iload 6, 2) := dt_Ref_lookAt 131
theorem d_Ref_lookAt_238 : decode (jm_cod M_Ref_lookAt) 238 = .ok (.sipush 256, 3) := dt_Ref_lookAt 132
theorem d_Ref_lookAt_241 : decode (jm_cod M_Ref_lookAt) 241 = .ok (.iand, 1) := dt_Ref_lookAt 133
theorem d_Ref_lookAt_242 : decode (jm_cod M_Ref_lookAt) 242 = .ok (.ifCond .eq 7, 3) := dt_Ref_lookAt 134
theorem d_Ref_lookAt_245 : decode (jm_cod M_Ref_lookAt) 245 = .ok (.iconst 1, 1) := dt_Ref_lookAt 135
theorem d_Ref_lookAt_246 : decode (jm_cod M_Ref_lookAt) 246 = .ok (.goto 4, 3) := dt_Ref_lookAt 136
theorem d_Ref_lookAt_249 : decode (jm_cod M_Ref_lookAt) 249 = .ok (.iconst 0, 1) := dt_Ref_lookAt 137
theorem d_Ref_lookAt_250 : decode (jm_cod M_Ref_lookAt) 250 = .ok (.if_icmp .eq 14, 3) := dt_Ref_lookAt 138
theorem d_Ref_lookAt_253 : decode (jm_cod M_Ref_lookAt) 253 = .ok (.aload_n 0, 1) := dt_Ref_lookAt 139
theorem d_Ref_lookAt_254 : decode (jm_cod M_Ref_lookAt) 254 = .ok (.iload_n 1, 1) := dt_Ref_lookAt 140
theorem d_Ref_lookAt_255 : decode (jm_cod M_Ref_lookAt) 255 = .ok (.bipush 7, 2) := dt_Ref_lookAt 141
theorem d_Ref_lookAt_257 : decode (jm_cod M_Ref_lookAt) 257 = .ok (.iload_n 2, 1) := dt_Ref_lookAt 142
theorem d_Ref_lookAt_258 : decode (jm_cod M_Ref_lookAt) 258 = .ok (.invokevirtual 415, 3) := dt_Ref_lookAt 143
theorem d_Ref_lookAt_261 : decode (jm_cod M_Ref_lookAt) 261 = .ok (.goto 30, 3) := dt_Ref_lookAt 144
theorem d_Ref_lookAt_264 : decode (jm_cod M_Ref_lookAt) 264 = .ok (.iload 9, 2) := dt_Ref_lookAt 145
theorem d_Ref_lookAt_266 : decode (jm_cod M_Ref_lookAt) 266 = .ok (.iconst 1, 1) := dt_Ref_lookAt 146
theorem d_Ref_lookAt_267 : decode (jm_cod M_Ref_lookAt) 267 = .ok (.if_icmp .ne 24, 3) := dt_Ref_lookAt 147
theorem d_Ref_lookAt_270 : decode (jm_cod M_Ref_lookAt) 270 = .ok (.aload_n 0, 1) := dt_Ref_lookAt 148
theorem d_Ref_lookAt_271 : decode (jm_cod M_Ref_lookAt) 271 = .ok (.getfield 268, 3) := dt_Ref_lookAt 149
theorem d_Ref_lookAt_274 : decode (jm_cod M_Ref_lookAt) 274 = .ok (.iload 10, 2) := dt_Ref_lookAt 150
theorem d_Ref_lookAt_276 : decode (jm_cod M_Ref_lookAt) 276 = .ok (.laload, 1) := dt_Ref_lookAt 151
theorem d_Ref_lookAt_277 : decode (jm_cod M_Ref_lookAt) 277 = .ok (.invokestatic 329, 3) := dt_Ref_lookAt 152
theorem d_Ref_lookAt_280 : decode (jm_cod M_Ref_lookAt) 280 = .ok (.ifCond .ne 11, 3) := dt_Ref_lookAt 153
theorem d_Ref_lookAt_283 : decode (jm_cod M_Ref_lookAt) 283 = .ok (.aload_n 0, 1) := dt_Ref_lookAt 154
theorem d_Ref_lookAt_284 : decode (jm_cod M_Ref_lookAt) 284 = .ok (.iload_n 1, 1) := dt_Ref_lookAt 155
theorem d_Ref_lookAt_285 : decode (jm_cod M_Ref_lookAt) 285 = .ok (.bipush 11, 2) := dt_Ref_lookAt 156
theorem d_Ref_lookAt_287 : decode (jm_cod M_Ref_lookAt) 287 = .ok (.iload_n 2, 1) := dt_Ref_lookAt 157
theorem d_Ref_lookAt_288 : decode (jm_cod M_Ref_lookAt) 288 = .ok (.invokevirtual 415, 3) := dt_Ref_lookAt 158
theorem d_Ref_lookAt_291 : decode (jm_cod M_Ref_lookAt) 291 = .ok (.return_, 1) := dt_Ref_lookAt 159
def tab_Ref_breakAt : List (Nat × Instr × Nat) := [(0, .aload_n 0, 1), (1, .getfield 238, 3), (4, .iload_n 1, 1), (5, .iaload, 1), (6, .ifCond .ne 29, 3), (9, .aload_n 0, 1), (10, .getfield 238, 3), (13, .iload_n 1, 1), (14, .iload_n 2, 1), (15, .iastore, 1), (16, .aload_n 0, 1), (17, .getfield 241, 3), (20, .iload_n 1, 1), (21, .iload_n 3, 1), (22, .iastore, 1), (23, .aload_n 0, 1), (24, .getfield 244, 3), (27, .iload_n 1, 1), (28, .aload_n 0, 1), (29, .getfield 235, 3), (32, .iload_n 1, 1), (33, .iaload, 1), (34, .iastore, 1), (35, .return_, 1)]
theorem dt_Ref_breakAt (i : Nat) : decode (jm_cod M_Ref_breakAt) (tab_Ref_breakAt.getD i (0, .aload_n 0, 1)).1 = .ok ((tab_Ref_breakAt.getD i (0, .aload_n 0, 1)).2.1, (tab_Ref_breakAt.getD i (0, .aload_n 0, 1)).2.2) := j_tab (by decide +kernel) i
theorem d_Ref_breakAt_0 : decode (jm_cod M_Ref_breakAt) 0 = .ok (.aload_n 0, 1) := dt_Ref_breakAt 0
theorem d_Ref_breakAt_1 : decode (jm_cod M_Ref_breakAt) 1 = .ok (.getfield 238, 3) := dt_Ref_breakAt 1
theorem d_Ref_breakAt_4 : decode (jm_cod M_Ref_breakAt) 4 = .ok (.iload_n 1, 1) := dt_Ref_breakAt 2
theorem d_Ref_breakAt_5 : decode (jm_cod M_Ref_breakAt) 5 = .ok (.iaload, 1) := dt_Ref_breakAt 3
theorem d_Ref_breakAt_6 : decode (jm_cod M_Ref_breakAt) 6 = .ok (.ifCond .ne 29, 3) := dt_Ref_breakAt 4
theorem d_Ref_breakAt_9 : decode (jm_cod M_Ref_breakAt) 9 = .ok (.aload_n 0, 1) := dt_Ref_breakAt 5
theorem d_Ref_breakAt_10 : decode (jm_cod M_Ref_breakAt) 10 = .ok (.getfield 238, 3) := dt_Ref_breakAt 6
theorem d_Ref_breakAt_13 : decode (jm_cod M_Ref_breakAt) 13 = .ok (.iload_n 1, 1) := dt_Ref_breakAt 7
theorem d_Ref_breakAt_14 : decode (jm_cod M_Ref_breakAt) 14 = .ok (.iload_n 2, 1) := dt_Ref_breakAt 8
theorem d_Ref_breakAt_15 : decode (jm_cod M_Ref_breakAt) 15 = .ok (.iastore, 1) := dt_Ref_breakAt 9
theorem d_Ref_breakAt_16 : decode (jm_cod M_Ref_breakAt) 16 = .ok (.aload_n 0, 1) := dt_Ref_breakAt 10
theorem d_Ref_breakAt_17 : decode (jm_cod M_Ref_breakAt) 17 = .ok (.getfield 241, 3) := dt_Ref_breakAt 11
theorem d_Ref_breakAt_20 : decode (jm_cod M_Ref_breakAt) 20 = .ok (.iload_n 1, 1) := dt_Ref_breakAt 12
theorem d_Ref_breakAt_21 : decode (jm_cod M_Ref_breakAt) 21 = .ok (.iload_n 3, 1) := dt_Ref_breakAt 13
theorem d_Ref_breakAt_22 : decode (jm_cod M_Ref_breakAt) 22 = .ok (.iastore, 1) := dt_Ref_breakAt 14
theorem d_Ref_breakAt_23 : decode (jm_cod M_Ref_breakAt) 23 = .ok (.aload_n 0, 1) := dt_Ref_breakAt 15
theorem d_Ref_breakAt_24 : decode (jm_cod M_Ref_breakAt) 24 = .ok (.getfield 244, 3) := dt_Ref_breakAt 16
theorem d_Ref_breakAt_27 : decode (jm_cod M_Ref_breakAt) 27 = .ok (.iload_n 1, 1) := dt_Ref_breakAt 17
theorem d_Ref_breakAt_28 : decode (jm_cod M_Ref_breakAt) 28 = .ok (.aload_n 0, 1) := dt_Ref_breakAt 18
theorem d_Ref_breakAt_29 : decode (jm_cod M_Ref_breakAt) 29 = .ok (.getfield 235, 3) := dt_Ref_breakAt 19
theorem d_Ref_breakAt_32 : decode (jm_cod M_Ref_breakAt) 32 = .ok (.iload_n 1, 1) := dt_Ref_breakAt 20
theorem d_Ref_breakAt_33 : decode (jm_cod M_Ref_breakAt) 33 = .ok (.iaload, 1) := dt_Ref_breakAt 21
theorem d_Ref_breakAt_34 : decode (jm_cod M_Ref_breakAt) 34 = .ok (.iastore, 1) := dt_Ref_breakAt 22
theorem d_Ref_breakAt_35 : decode (jm_cod M_Ref_breakAt) 35 = .ok (.return_, 1) := dt_Ref_breakAt 23
def tab_Ref_monitoredWrite : List (Nat × Instr × Nat) := [(0, .iconst 0, 1), (1, .istore_n 3, 1), (2, .iload_n 3, 1), (3, .aload_n 0, 1), (4, .getfield 247, 3), (7, .iload_n 1, 1), (8, .iaload, 1), (9, .if_icmp .ge 54, 3), (12, .bipush 16, 2), (14, .iload_n 1, 1), (15, .imul, 1), (16, .iload_n 3, 1), (17, .iadd, 1), (18, .istore 4, 2), (20, .aload_n 0, 1), (21, .getfield 253, 3), (24, .iload 4, 2), (26, .baload, 1), (27, .ifCond .eq 30, 3), (30, .aload_n 0, 1), (31, .getfield 262, 3), (34, .iload 4, 2), (36, .baload, 1), (37, .ifCond .eq 20, 3), (40, .aload_n 0, 1), (41, .getfield 256, 3), (44, .iload 4, 2), (46, .laload, 1), (47, .invokestatic 396, 3), (50, .iload_n 2, 1), (51, .if_icmp .ne 6, 3), (54, .iload 4, 2), (56, .ireturn, 1), (57, .iinc 3 1, 3), (60, .goto (-58), 3), (63, .iconst (-1), 1), (64, .ireturn, 1)]
theorem dt_Ref_monitoredWrite (i : Nat) : decode (jm_cod M_Ref_monitoredWrite) (tab_Ref_monitoredWrite.getD i (0, .iconst 0, 1)).1 = .ok ((tab_Ref_monitoredWrite.getD i (0, .iconst 0, 1)).2.1, (tab_Ref_monitoredWrite.getD i (0, .iconst 0, 1)).2.2) := j_tab (by decide +kernel) i
theorem d_Ref_monitoredWrite_0 : decode (jm_cod M_Ref_monitoredWrite) 0 = .ok (.iconst 0, 1) := dt_Ref_monitoredWrite 0
theorem d_Ref_monitoredWrite_1 : decode (jm_cod M_Ref_monitoredWrite) 1 = .ok (.istore_n 3, 1) := dt_Ref_monitoredWrite 1
theorem d_Ref_monitoredWrite_2 : decode (jm_cod M_Ref_monitoredWrite) 2 = .ok (.iload_n 3, 1) := dt_Ref_monitoredWrite 2
theorem d_Ref_monitoredWrite_3 : decode (jm_cod M_Ref_monitoredWrite) 3 = .ok (.aload_n 0, 1) := dt_Ref_monitoredWrite 3
theorem d_Ref_monitoredWrite_4 : decode (jm_cod M_Ref_monitoredWrite) 4 = .ok (.getfield 247, 3) := dt_Ref_monitoredWrite 4
theorem d_Ref_monitoredWrite_7 : decode (jm_cod M_Ref_monitoredWrite) 7 = .ok (.iload_n 1, 1) := dt_Ref_monitoredWrite 5
theorem d_Ref_monitoredWrite_8 : decode (jm_cod M_Ref_monitoredWrite) 8 = .ok (.iaload, 1) := dt_Ref_monitoredWrite 6
theorem d_Ref_monitoredWrite_9 : decode (jm_cod M_Ref_monitoredWrite) 9 = .ok (.if_icmp .ge 54, 3) := dt_Ref_monitoredWrite 7
theorem d_Ref_monitoredWrite_12 : decode (jm_cod M_Ref_monitoredWrite) 12 = .ok (.bipush 16, 2) := dt_Ref_monitoredWrite 8
theorem d_Ref_monitoredWrite_14 : decode (jm_cod M_Ref_monitoredWrite) 14 = .ok (.iload_n 1, 1) := dt_Ref_monitoredWrite 9
theorem d_Ref_monitoredWrite_15 : decode (jm_cod M_Ref_monitoredWrite) 15 = .ok (.imul, 1) := dt_Ref_monitoredWrite 10
theorem d_Ref_monitoredWrite_16 : decode (jm_cod M_Ref_monitoredWrite) 16 = .ok (.iload_n 3, 1) := dt_Ref_monitoredWrite 11
theorem d_Ref_monitoredWrite_17 : decode (jm_cod M_Ref_monitoredWrite) 17 = .ok (.iadd, 1) := dt_Ref_monitoredWrite 12
theorem d_Ref_monitoredWrite_18 : decode (jm_cod M_Ref_monitoredWrite) 18 = .ok (.istore 4, 2) := dt_Ref_monitoredWrite 13
theorem d_Ref_monitoredWrite_20 : decode (jm_cod M_Ref_monitoredWrite) 20 = .ok (.aload_n 0, 1) := dt_Ref_monitoredWrite 14
theorem d_Ref_monitoredWrite_21 : decode (jm_cod M_Ref_monitoredWrite) 21 = .ok (.getfield 253, 3) := dt_Ref_monitoredWrite 15
theorem d_Ref_monitoredWrite_24 : decode (jm_cod M_Ref_monitoredWrite) 24 = .ok (.iload 4, 2) := dt_Ref_monitoredWrite 16
theorem d_Ref_monitoredWrite_26 : decode (jm_cod M_Ref_monitoredWrite) 26 = .ok (.baload, 1) := dt_Ref_monitoredWrite 17
theorem d_Ref_monitoredWrite_27 : decode (jm_cod M_Ref_monitoredWrite) 27 = .ok (.ifCond .eq 30, 3) := dt_Ref_monitoredWrite 18
theorem d_Ref_monitoredWrite_30 : decode (jm_cod M_Ref_monitoredWrite) 30 = .ok (.aload_n 0, 1) := dt_Ref_monitoredWrite 19
theorem d_Ref_monitoredWrite_31 : decode (jm_cod M_Ref_monitoredWrite) 31 = .ok (.getfield 262, 3) := dt_Ref_monitoredWrite 20
theorem d_Ref_monitoredWrite_34 : decode (jm_cod M_Ref_monitoredWrite) 34 = .ok (.iload 4, 2) := dt_Ref_monitoredWrite 21
theorem d_Ref_monitoredWrite_36 : decode (jm_cod M_Ref_monitoredWrite) 36 = .ok (.baload, 1) := dt_Ref_monitoredWrite 22
theorem d_Ref_monitoredWrite_37 : decode (jm_cod M_Ref_monitoredWrite) 37 = .ok (.ifCond .eq 20, 3) := dt_Ref_monitoredWrite 23
theorem d_Ref_monitoredWrite_40 : decode (jm_cod M_Ref_monitoredWrite) 40 = .ok (.aload_n 0, 1) := dt_Ref_monitoredWrite 24
theorem d_Ref_monitoredWrite_41 : decode (jm_cod M_Ref_monitoredWrite) 41 = .ok (.getfield 256, 3) := dt_Ref_monitoredWrite 25
theorem d_Ref_monitoredWrite_44 : decode (jm_cod M_Ref_monitoredWrite) 44 = .ok (.iload 4, 2) := dt_Ref_monitoredWrite 26
theorem d_Ref_monitoredWrite_46 : decode (jm_cod M_Ref_monitoredWrite) 46 = .ok (.laload, 1) := dt_Ref_monitoredWrite 27
theorem d_Ref_monitoredWrite_47 : decode (jm_cod M_Ref_monitoredWrite) 47 = .ok (.invokestatic 396, 3) := dt_Ref_monitoredWrite 28
theorem d_Ref_monitoredWrite_50 : decode (jm_cod M_Ref_monitoredWrite) 50 = .ok (.iload_n 2, 1) := dt_Ref_monitoredWrite 29
theorem d_Ref_monitoredWrite_51 : decode (jm_cod M_Ref_monitoredWrite) 51 = .ok (.if_icmp .ne 6, 3) := dt_Ref_monitoredWrite 30
theorem d_Ref_monitoredWrite_54 : decode (jm_cod M_Ref_monitoredWrite) 54 = .ok (.iload 4, 2) := dt_Ref_monitoredWrite 31
theorem d_Ref_monitoredWrite_56 : decode (jm_cod M_Ref_monitoredWrite) 56 = .ok (.ireturn, 1) := dt_Ref_monitoredWrite 32
theorem d_Ref_monitoredWrite_57 : decode (jm_cod M_Ref_monitoredWrite) 57 = .ok (.iinc 3 1, 3) := dt_Ref_monitoredWrite 33
theorem d_Ref_monitoredWrite_60 : decode (jm_cod M_Ref_monitoredWrite) 60 = .ok (.goto (-58), 3) := dt_Ref_monitoredWrite 34
theorem d_Ref_monitoredWrite_63 : decode (jm_cod M_Ref_monitoredWrite) 63 = .ok (.iconst (-1), 1) := dt_Ref_monitoredWrite 35
theorem d_Ref_monitoredWrite_64 : decode (jm_cod M_Ref_monitoredWrite) 64 = .ok (.ireturn, 1) := dt_Ref_monitoredWrite 36
def tab_Ref_monitoredRead : List (Nat × Instr × Nat) := [(0, .iconst 0, 1), (1, .istore_n 3, 1), (2, .iload_n 3, 1), (3, .aload_n 0, 1), (4, .getfield 250, 3), (7, .iload_n 1, 1), (8, .iaload, 1), (9, .if_icmp .ge 34, 3), (12, .aload_n 0, 1), (13, .getfield 268, 3), (16, .bipush 16, 2), (18, .iload_n 1, 1), (19, .imul, 1), (20, .iload_n 3, 1), (21, .iadd, 1), (22, .laload, 1), (23, .invokestatic 396, 3), (26, .iload_n 2, 1), (27, .if_icmp .ne 10, 3), (30, .bipush 16, 2), (32, .iload_n 1, 1), (33, .imul, 1), (34, .iload_n 3, 1), (35, .iadd, 1), (36, .ireturn, 1), (37, .iinc 3 1, 3), (40, .goto (-38), 3), (43, .iconst (-1), 1), (44, .ireturn, 1)]
theorem dt_Ref_monitoredRead (i : Nat) : decode (jm_cod M_Ref_monitoredRead) (tab_Ref_monitoredRead.getD i (0, .iconst 0, 1)).1 = .ok ((tab_Ref_monitoredRead.getD i (0, .iconst 0, 1)).2.1, (tab_Ref_monitoredRead.getD i (0, .iconst 0, 1)).2.2) := j_tab (by decide +kernel) i
theorem d_Ref_monitoredRead_0 : decode (jm_cod M_Ref_monitoredRead) 0 = .ok (.iconst 0, 1) := dt_Ref_monitoredRead 0
theorem d_Ref_monitoredRead_1 : decode (jm_cod M_Ref_monitoredRead) 1 = .ok (.istore_n 3, 1) := dt_Ref_monitoredRead 1
theorem d_Ref_monitoredRead_2 : decode (jm_cod M_Ref_monitoredRead) 2 = .ok (.iload_n 3, 1) := dt_Ref_monitoredRead 2
theorem d_Ref_monitoredRead_3 : decode (jm_cod M_Ref_monitoredRead) 3 = .ok (.aload_n 0, 1) := dt_Ref_monitoredRead 3
theorem d_Ref_monitoredRead_4 : decode (jm_cod M_Ref_monitoredRead) 4 = .ok (.getfield 250, 3) := dt_Ref_monitoredRead 4
theorem d_Ref_monitoredRead_7 : decode (jm_cod M_Ref_monitoredRead) 7 = .ok (.iload_n 1, 1) := dt_Ref_monitoredRead 5
theorem d_Ref_monitoredRead_8 : decode (jm_cod M_Ref_monitoredRead) 8 = .ok (.iaload, 1) := dt_Ref_monitoredRead 6
theorem d_Ref_monitoredRead_9 : decode (jm_cod M_Ref_monitoredRead) 9 = .ok (.if_icmp .ge 34, 3) := dt_Ref_monitoredRead 7
theorem d_Ref_monitoredRead_12 : decode (jm_cod M_Ref_monitoredRead) 12 = .ok (.aload_n 0, 1) := dt_Ref_monitoredRead 8
theorem d_Ref_monitoredRead_13 : decode (jm_cod M_Ref_monitoredRead) 13 = .ok (.getfield 268, 3) := dt_Ref_monitoredRead 9
theorem d_Ref_monitoredRead_16 : decode (jm_cod M_Ref_monitoredRead) 16 = .ok (.bipush 16, 2) := dt_Ref_monitoredRead 10
theorem d_Ref_monitoredRead_18 : decode (jm_cod M_Ref_monitoredRead) 18 = .ok (.iload_n 1, 1) := dt_Ref_monitoredRead 11
theorem d_Ref_monitoredRead_19 : decode (jm_cod M_Ref_monitoredRead) 19 = .ok (.imul, 1) := dt_Ref_monitoredRead 12
theorem d_Ref_monitoredRead_20 : decode (jm_cod M_Ref_monitoredRead) 20 = .ok (.iload_n 3, 1) := dt_Ref_monitoredRead 13
theorem d_Ref_monitoredRead_21 : decode (jm_cod M_Ref_monitoredRead) 21 = .ok (.iadd, 1) := dt_Ref_monitoredRead 14
theorem d_Ref_monitoredRead_22 : decode (jm_cod M_Ref_monitoredRead) 22 = .ok (.laload, 1) := dt_Ref_monitoredRead 15
theorem d_Ref_monitoredRead_23 : decode (jm_cod M_Ref_monitoredRead) 23 = .ok (.invokestatic 396, 3) := dt_Ref_monitoredRead 16
theorem d_Ref_monitoredRead_26 : decode (jm_cod M_Ref_monitoredRead) 26 = .ok (.iload_n 2, 1) := dt_Ref_monitoredRead 17
theorem d_Ref_monitoredRead_27 : decode (jm_cod M_Ref_monitoredRead) 27 = .ok (.if_icmp .ne 10, 3) := dt_Ref_monitoredRead 18
theorem d_Ref_monitoredRead_30 : decode (jm_cod M_Ref_monitoredRead) 30 = .ok (.bipush 16, 2) := dt_Ref_monitoredRead 19
theorem d_Ref_monitoredRead_32 : decode (jm_cod M_Ref_monitoredRead) 32 = .ok (.iload_n 1, 1) := dt_Ref_monitoredRead 20
theorem d_Ref_monitoredRead_33 : decode (jm_cod M_Ref_monitoredRead) 33 = .ok (.imul, 1) := dt_Ref_monitoredRead 21
theorem d_Ref_monitoredRead_34 : decode (jm_cod M_Ref_monitoredRead) 34 = .ok (.iload_n 3, 1) := dt_Ref_monitoredRead 22
theorem d_Ref_monitoredRead_35 : decode (jm_cod M_Ref_monitoredRead) 35 = .ok (.iadd, 1) := dt_Ref_monitoredRead 23
theorem d_Ref_monitoredRead_36 : decode (jm_cod M_Ref_monitoredRead) 36 = .ok (.ireturn, 1) := dt_Ref_monitoredRead 24
theorem d_Ref_monitoredRead_37 : decode (jm_cod M_Ref_monitoredRead) 37 = .ok (.iinc 3 1, 3) := dt_Ref_monitoredRead 25
theorem d_Ref_monitoredRead_40 : decode (jm_cod M_Ref_monitoredRead) 40 = .ok (.goto (-38), 3) := dt_Ref_monitoredRead 26
theorem d_Ref_monitoredRead_43 : decode (jm_cod M_Ref_monitoredRead) 43 = .ok (.iconst (-1), 1) := dt_Ref_monitoredRead 27
theorem d_Ref_monitoredRead_44 : decode (jm_cod M_Ref_monitoredRead) 44 = .ok (.ireturn, 1) := dt_Ref_monitoredRead 28
def tab_Ref_go : List (Nat × Instr × Nat) := [(0, .aload_n 0, 1), (1, .iload_n 2, 1), (2, .iconst 2, 1), (3, .iadd, 1), (4, .iload_n 3, 1), (5, .invokevirtual 449, 3), (8, .ifCond .eq 34, 3), (11, .aload_n 0, 1), (12, .iload_n 1, 1), (13, .iload_n 3, 1), (14, .ifCond .eq 14, 3), (17, .aload_n 0, 1), (18, .getfield 283, 3), (21, .iload_n 2, 1), (22, .iconst 2, 1), (23, .iadd, 1), (24, .iaload, 1), (25, .goto 11, 3), (28, .aload_n 0, 1), (29, .getfield 97, 3), (32, .iload_n 2, 1), (33, .iconst 2, 1), (34, .iadd, 1), (35, .iaload, 1), (36, .bipush 63, 2), (38, .iand, 1), (39, .invokevirtual 453, 3), (42, .aload_n 0, 1), (43, .iload_n 2, 1), (44, .iconst 4, 1), (45, .iadd, 1), (46, .iload_n 3, 1), (47, .invokevirtual 449, 3), (50, .ifCond .eq 34, 3), (53, .aload_n 0, 1), (54, .iload_n 1, 1), (55, .iload_n 3, 1), (56, .ifCond .eq 14, 3), (59, .aload_n 0, 1), (60, .getfield 283, 3), (63, .iload_n 2, 1), (64, .iconst 4, 1), (65, .iadd, 1), (66, .iaload, 1), (67, .goto 11, 3), (70, .aload_n 0, 1), (71, .getfield 97, 3), (74, .iload_n 2, 1), (75, .iconst 4, 1), (76, .iadd, 1), (77, .iaload, 1), (78, .bipush 63, 2), (80, .iand, 1), (81, .invokevirtual 456, 3), (84, .aload_n 0, 1), (85, .iload_n 2, 1), (86, .iconst 3, 1), (87, .iadd, 1), (88, .iload_n 3, 1), (89, .invokevirtual 449, 3), (92, .ifCond .eq 31, 3), (95, .aload_n 0, 1), (96, .iload_n 1, 1), (97, .iload_n 3, 1), (98, .ifCond .eq 14, 3), (101, .aload_n 0, 1), (102, .getfield 280, 3), (105, .iload_n 2, 1), (106, .iconst 3, 1), (107, .iadd, 1), (108, .laload, 1), (109, .goto 11, 3), (112, .aload_n 0, 1), (113, .getfield 94, 3), (116, .iload_n 2, 1), (117, .iconst 3, 1), (118, .iadd, 1), (119, .laload, 1), (120, .invokevirtual 459, 3), (123, .aload_n 0, 1), (124, .getfield 238, 3), (127, .iload_n 1, 1), (128, .iaload, 1), (129, .ifCond .ne 42, 3), (132, .aload_n 0, 1), (133, .iload_n 2, 1), (134, .iconst 0, 1), (135, .iadd, 1), (136, .iload_n 3, 1), (137, .invokevirtual 449, 3), (140, .ifCond .eq 31, 3), (143, .aload_n 0, 1), (144, .iload_n 1, 1), (145, .iload_n 3, 1), (146, .ifCond .eq 14, 3), (149, .aload_n 0, 1), (150, .getfield 280, 3), (153, .iload_n 2, 1), (154, .iconst 0, 1), (155, .iadd, 1), (156, .laload, 1), (157, .goto 11, 3), (160, .aload_n 0, 1), (161, .getfield 94, 3), (164, .iload_n 2, 1), (165, .iconst 0, 1), (166, .iadd, 1), (167, .laload, 1), (168, .invokevirtual 463, 3), (171, .aload_n 0, 1), (172, .getfield 238, 3), (175, .iload_n 1, 1), (176, .iaload, 1), (177, .ifCond .ne 42, 3), (180, .aload_n 0, 1), (181, .iload_n 2, 1), (182, .iconst 1, 1), (183, .iadd, 1), (184, .iload_n 3, 1), (185, .invokevirtual 449, 3), (188, .ifCond .eq 31, 3), (191, .aload_n 0, 1), (192, .iload_n 1, 1), (193, .iload_n 3, 1), (194, .ifCond .eq 14, 3), (197, .aload_n 0, 1), (198, .getfield 283, 3), (201, .iload_n 2, 1), (202, .iconst 1, 1), (203, .iadd, 1), (204, .iaload, 1), (205, .goto 11, 3), (208, .aload_n 0, 1), (209, .getfield 97, 3), (212, .iload_n 2, 1), (213, .iconst 1, 1), (214, .iadd, 1), (215, .iaload, 1), (216, .invokevirtual 466, 3), (219, .return_, 1)]
theorem dt_Ref_go (i : Nat) : decode (jm_cod M_Ref_go) (tab_Ref_go.getD i (0, .aload_n 0, 1)).1 = .ok ((tab_Ref_go.getD i (0, .aload_n 0, 1)).2.1, (tab_Ref_go.getD i (0, .aload_n 0, 1)).2.2) := j_tab (by decide +kernel) i
theorem d_Ref_go_0 : decode (jm_cod M_Ref_go) 0 = .ok (.aload_n 0, 1) := dt_Ref_go 0
theorem d_Ref_go_1 : decode (jm_cod M_Ref_go) 1 = .ok (.iload_n 2, 1) := dt_Ref_go 1
theorem d_Ref_go_2 : decode (jm_cod M_Ref_go) 2 = .ok (.iconst 2, 1) := dt_Ref_go 2
theorem d_Ref_go_3 : decode (jm_cod M_Ref_go) 3 = .ok (.iadd, 1) := dt_Ref_go 3
theorem d_Ref_go_4 : decode (jm_cod M_Ref_go) 4 = .ok (.iload_n 3, 1) := dt_Ref_go 4
theorem d_Ref_go_5 : decode (jm_cod M_Ref_go) 5 = .ok (.invokevirtual 449, 3) := dt_Ref_go 5
theorem d_Ref_go_8 : decode (jm_cod M_Ref_go) 8 = .ok (.ifCond .eq 34, 3) := dt_Ref_go 6
theorem d_Ref_go_11 : decode (jm_cod M_Ref_go) 11 = .ok (.aload_n 0, 1) := dt_Ref_go 7
theorem d_Ref_go_12 : decode (jm_cod M_Ref_go) 12 = .ok (.iload_n 1, 1) := dt_Ref_go 8
theorem d_Ref_go_13 : decode (jm_cod M_Ref_go) 13 = .ok (.iload_n 3, 1) := dt_Ref_go 9
theorem d_Ref_go_14 : decode (jm_cod M_Ref_go) 14 = .ok (.ifCond .eq 14, 3) := dt_Ref_go 10
theorem d_Ref_go_17 : decode (jm_cod M_Ref_go) 17 = .ok (.aload_n 0, 1) := dt_Ref_go 11
theorem d_Ref_go_18 : decode (jm_cod M_Ref_go) 18 = .ok (.getfield 283, 3) := dt_Ref_go 12
theorem d_Ref_go_21 : decode (jm_cod M_Ref_go) 21 = .ok (.iload_n 2, 1) := dt_Ref_go 13
theorem d_Ref_go_22 : decode (jm_cod M_Ref_go) 22 = .ok (.iconst 2, 1) := dt_Ref_go 14
theorem d_Ref_go_23 : decode (jm_cod M_Ref_go) 23 = .ok (.iadd, 1) := dt_Ref_go 15
theorem d_Ref_go_24 : decode (jm_cod M_Ref_go) 24 = .ok (.iaload, 1) := dt_Ref_go 16
theorem d_Ref_go_25 : decode (jm_cod M_Ref_go) 25 = .ok (.goto 11, 3) := dt_Ref_go 17
theorem d_Ref_go_28 : decode (jm_cod M_Ref_go) 28 = .ok (.aload_n 0, 1) := dt_Ref_go 18
theorem d_Ref_go_29 : decode (jm_cod M_Ref_go) 29 = .ok (.getfield 97, 3) := dt_Ref_go 19
theorem d_Ref_go_32 : decode (jm_cod M_Ref_go) 32 = .ok (.iload_n 2, 1) := dt_Ref_go 20
theorem d_Ref_go_33 : decode (jm_cod M_Ref_go) 33 = .ok (.iconst 2, 1) := dt_Ref_go 21
theorem d_Ref_go_34 : decode (jm_cod M_Ref_go) 34 = .ok (.iadd, 1) := dt_Ref_go 22
theorem d_Ref_go_35 : decode (jm_cod M_Ref_go) 35 = .ok (.iaload, 1) := dt_Ref_go 23
theorem d_Ref_go_36 : decode (jm_cod M_Ref_go) 36 = .ok (.bipush 63, 2) := dt_Ref_go 24
theorem d_Ref_go_38 : decode (jm_cod M_Ref_go) 38 = .ok (.iand, 1) := dt_Ref_go 25
theorem d_Ref_go_39 : decode (jm_cod M_Ref_go) 39 = .ok (.invokevirtual 453, 3) := dt_Ref_go 26
theorem d_Ref_go_42 : decode (jm_cod M_Ref_go) 42 = .ok (.aload_n 0, 1) := dt_Ref_go 27
theorem d_Ref_go_43 : decode (jm_cod M_Ref_go) 43 = .ok (.iload_n 2, 1) := dt_Ref_go 28
theorem d_Ref_go_44 : decode (jm_cod M_Ref_go) 44 = .ok (.iconst 4, 1) := dt_Ref_go 29
theorem d_Ref_go_45 : decode (jm_cod M_Ref_go) 45 = .ok (.iadd, 1) := dt_Ref_go 30
theorem d_Ref_go_46 : decode (jm_cod M_Ref_go) 46 = .ok (.iload_n 3, 1) := dt_Ref_go 31
theorem d_Ref_go_47 : decode (jm_cod M_Ref_go) 47 = .ok (.invokevirtual 449, 3) := dt_Ref_go 32
theorem d_Ref_go_50 : decode (jm_cod M_Ref_go) 50 = .ok (.ifCond .eq 34, 3) := dt_Ref_go 33
theorem d_Ref_go_53 : decode (jm_cod M_Ref_go) 53 = .ok (.aload_n 0, 1) := dt_Ref_go 34
theorem d_Ref_go_54 : decode (jm_cod M_Ref_go) 54 = .ok (.iload_n 1, 1) := dt_Ref_go 35
theorem d_Ref_go_55 : decode (jm_cod M_Ref_go) 55 = .ok (.iload_n 3, 1) := dt_Ref_go 36
theorem d_Ref_go_56 : decode (jm_cod M_Ref_go) 56 = .ok (.ifCond .eq 14, 3) := dt_Ref_go 37
theorem d_Ref_go_59 : decode (jm_cod M_Ref_go) 59 = .ok (.aload_n 0, 1) := dt_Ref_go 38
theorem d_Ref_go_60 : decode (jm_cod M_Ref_go) 60 = .ok (.getfield 283, 3) := dt_Ref_go 39
theorem d_Ref_go_63 : decode (jm_cod M_Ref_go) 63 = .ok (.iload_n 2, 1) := dt_Ref_go 40
theorem d_Ref_go_64 : decode (jm_cod M_Ref_go) 64 = .ok (.iconst 4, 1) := dt_Ref_go 41
theorem d_Ref_go_65 : decode (jm_cod M_Ref_go) 65 = .ok (.iadd, 1) := dt_Ref_go 42
theorem d_Ref_go_66 : decode (jm_cod M_Ref_go) 66 = .ok (.iaload, 1) := dt_Ref_go 43
theorem d_Ref_go_67 : decode (jm_cod M_Ref_go) 67 = .ok (.goto 11, 3) := dt_Ref_go 44
theorem d_Ref_go_70 : decode (jm_cod M_Ref_go) 70 = .ok (.aload_n 0, 1) := dt_Ref_go 45
theorem d_Ref_go_71 : decode (jm_cod M_Ref_go) 71 = .ok (.getfield 97, 3) := dt_Ref_go 46
theorem d_Ref_go_74 : decode (jm_cod M_Ref_go) 74 = .ok (.iload_n 2, 1) := dt_Ref_go 47
theorem d_Ref_go_75 : decode (jm_cod M_Ref_go) 75 = .ok (.iconst 4, 1) := dt_Ref_go 48
theorem d_Ref_go_76 : decode (jm_cod M_Ref_go) 76 = .ok (.iadd, 1) := dt_Ref_go 49
theorem d_Ref_go_77 : decode (jm_cod M_Ref_go) 77 = .ok (.iaload, 1) := dt_Ref_go 50
theorem d_Ref_go_78 : decode (jm_cod M_Ref_go) 78 = .ok (.bipush 63, 2) := dt_Ref_go 51
theorem d_Ref_go_80 : decode (jm_cod M_Ref_go) 80 = .ok (.iand, 1) := dt_Ref_go 52
theorem d_Ref_go_81 : decode (jm_cod M_Ref_go) 81 = .ok (.invokevirtual 456, 3) := dt_Ref_go 53
theorem d_Ref_go_84 : decode (jm_cod M_Ref_go) 84 = .ok (.aload_n 0, 1) := dt_Ref_go 54
theorem d_Ref_go_85 : decode (jm_cod M_Ref_go) 85 = .ok (.iload_n 2, 1) := dt_Ref_go 55
theorem d_Ref_go_86 : decode (jm_cod M_Ref_go) 86 = .ok (.iconst 3, 1) := dt_Ref_go 56
theorem d_Ref_go_87 : decode (jm_cod M_Ref_go) 87 = .ok (.iadd, 1) := dt_Ref_go 57
theorem d_Ref_go_88 : decode (jm_cod M_Ref_go) 88 = .ok (.iload_n 3, 1) := dt_Ref_go 58
theorem d_Ref_go_89 : decode (jm_cod M_Ref_go) 89 = .ok (.invokevirtual 449, 3) := dt_Ref_go 59
theorem d_Ref_go_92 : decode (jm_cod M_Ref_go) 92 = .ok (.ifCond .eq 31, 3) := dt_Ref_go 60
theorem d_Ref_go_95 : decode (jm_cod M_Ref_go) 95 = .ok (.aload_n 0, 1) := dt_Ref_go 61
theorem d_Ref_go_96 : decode (jm_cod M_Ref_go) 96 = .ok (.iload_n 1, 1) := dt_Ref_go 62
theorem d_Ref_go_97 : decode (jm_cod M_Ref_go) 97 = .ok (.iload_n 3, 1) := dt_Ref_go 63
theorem d_Ref_go_98 : decode (jm_cod M_Ref_go) 98 = .ok (.ifCond .eq 14, 3) := dt_Ref_go 64
theorem d_Ref_go_101 : decode (jm_cod M_Ref_go) 101 = .ok (.aload_n 0, 1) := dt_Ref_go 65
theorem d_Ref_go_102 : decode (jm_cod M_Ref_go) 102 = .ok (.getfield 280, 3) := dt_Ref_go 66
theorem d_Ref_go_105 : decode (jm_cod M_Ref_go) 105 = .ok (.iload_n 2, 1) := dt_Ref_go 67
theorem d_Ref_go_106 : decode (jm_cod M_Ref_go) 106 = .ok (.iconst 3, 1) := dt_Ref_go 68
theorem d_Ref_go_107 : decode (jm_cod M_Ref_go) 107 = .ok (.iadd, 1) := dt_Ref_go 69
theorem d_Ref_go_108 : decode (jm_cod M_Ref_go) 108 = .ok (.laload, 1) := dt_Ref_go 70
theorem d_Ref_go_109 : decode (jm_cod M_Ref_go) 109 = .ok (.goto 11, 3) := dt_Ref_go 71
theorem d_Ref_go_112 : decode (jm_cod M_Ref_go) 112 = .ok (.aload_n 0, 1) := dt_Ref_go 72
theorem d_Ref_go_113 : decode (jm_cod M_Ref_go) 113 = .ok (.getfield 94, 3) := dt_Ref_go 73
theorem d_Ref_go_116 : decode (jm_cod M_Ref_go) 116 = .ok (.iload_n 2, 1) := dt_Ref_go 74
theorem d_Ref_go_117 : decode (jm_cod M_Ref_go) 117 = .ok (.iconst 3, 1) := dt_Ref_go 75
theorem d_Ref_go_118 : decode (jm_cod M_Ref_go) 118 = .ok (.iadd, 1) := dt_Ref_go 76
theorem d_Ref_go_119 : decode (jm_cod M_Ref_go) 119 = .ok (.laload, 1) := dt_Ref_go 77
theorem d_Ref_go_120 : decode (jm_cod M_Ref_go) 120 = .ok (.invokevirtual 459, 3) := dt_Ref_go 78
theorem d_Ref_go_123 : decode (jm_cod M_Ref_go) 123 = .ok (.aload_n 0, 1) := dt_Ref_go 79
theorem d_Ref_go_124 : decode (jm_cod M_Ref_go) 124 = .ok (.getfield 238, 3) := dt_Ref_go 80
theorem d_Ref_go_127 : decode (jm_cod M_Ref_go) 127 = .ok (.iload_n 1, 1) := dt_Ref_go 81
theorem d_Ref_go_128 : decode (jm_cod M_Ref_go) 128 = .ok (.iaload, 1) := dt_Ref_go 82
theorem d_Ref_go_129 : decode (jm_cod M_Ref_go) 129 = .ok (.ifCond .ne 42, 3) := dt_Ref_go 83
theorem d_Ref_go_132 : decode (jm_cod M_Ref_go) 132 = .ok (.aload_n 0, 1) := dt_Ref_go 84
theorem d_Ref_go_133 : decode (jm_cod M_Ref_go) 133 = .ok (.iload_n 2, 1) := dt_Ref_go 85
theorem d_Ref_go_134 : decode (jm_cod M_Ref_go) 134 = .ok (.iconst 0, 1) := dt_Ref_go 86
theorem d_Ref_go_135 : decode (jm_cod M_Ref_go) 135 = .ok (.iadd, 1) := dt_Ref_go 87
theorem d_Ref_go_136 : decode (jm_cod M_Ref_go) 136 = .ok (.iload_n 3, 1) := dt_Ref_go 88
theorem d_Ref_go_137 : decode (jm_cod M_Ref_go) 137 = .ok (.invokevirtual 449, 3) := dt_Ref_go 89
theorem d_Ref_go_140 : decode (jm_cod M_Ref_go) 140 = .ok (.ifCond .eq 31, 3) := dt_Ref_go 90
theorem d_Ref_go_143 : decode (jm_cod M_Ref_go) 143 = .ok (.aload_n 0, 1) := dt_Ref_go 91
theorem d_Ref_go_144 : decode (jm_cod M_Ref_go) 144 = .ok (.iload_n 1, 1) := dt_Ref_go 92
theorem d_Ref_go_145 : decode (jm_cod M_Ref_go) 145 = .ok (.iload_n 3, 1) := dt_Ref_go 93
theorem d_Ref_go_146 : decode (jm_cod M_Ref_go) 146 = .ok (.ifCond .eq 14, 3) := dt_Ref_go 94
theorem d_Ref_go_149 : decode (jm_cod M_Ref_go) 149 = .ok (.aload_n 0, 1) := dt_Ref_go 95
theorem d_Ref_go_150 : decode (jm_cod M_Ref_go) 150 = .ok (.getfield 280, 3) := dt_Ref_go 96
theorem d_Ref_go_153 : decode (jm_cod M_Ref_go) 153 = .ok (.iload_n 2, 1) := dt_Ref_go 97
theorem d_Ref_go_154 : decode (jm_cod M_Ref_go) 154 = .ok (.iconst 0, 1) := dt_Ref_go 98
theorem d_Ref_go_155 : decode (jm_cod M_Ref_go) 155 = .ok (.iadd, 1) := dt_Ref_go 99
theorem d_Ref_go_156 : decode (jm_cod M_Ref_go) 156 = .ok (.laload, 1) := dt_Ref_go 100
theorem d_Ref_go_157 : decode (jm_cod M_Ref_go) 157 = .ok (.goto 11, 3) := dt_Ref_go 101
theorem d_Ref_go_160 : decode (jm_cod M_Ref_go) 160 = .ok (.aload_n 0, 1) := dt_Ref_go 102
theorem d_Ref_go_161 : decode (jm_cod M_Ref_go) 161 = .ok (.getfield 94, 3) := dt_Ref_go 103
theorem d_Ref_go_164 : decode (jm_cod M_Ref_go) 164 = .ok (.iload_n 2, 1) := dt_Ref_go 104
theorem d_Ref_go_165 : decode (jm_cod M_Ref_go) 165 = .ok (.iconst 0, 1) := dt_Ref_go 105
theorem d_Ref_go_166 : decode (jm_cod M_Ref_go) 166 = .ok (.iadd, 1) := dt_Ref_go 106
theorem d_Ref_go_167 : decode (jm_cod M_Ref_go) 167 = .ok (.laload, 1) := dt_Ref_go 107
theorem d_Ref_go_168 : decode (jm_cod M_Ref_go) 168 = .ok (.invokevirtual 463, 3) := dt_Ref_go 108
theorem d_Ref_go_171 : decode (jm_cod M_Ref_go) 171 = .ok (.aload_n 0, 1) := dt_Ref_go 109
theorem d_Ref_go_172 : decode (jm_cod M_Ref_go) 172 = .ok (.getfield 238, 3) := dt_Ref_go 110
theorem d_Ref_go_175 : decode (jm_cod M_Ref_go) 175 = .ok (.iload_n 1, 1) := dt_Ref_go 111
theorem d_Ref_go_176 : decode (jm_cod M_Ref_go) 176 = .ok (.iaload, 1) := dt_Ref_go 112
theorem d_Ref_go_177 : decode (jm_cod M_Ref_go) 177 = .ok (.ifCond .ne 42, 3) := dt_Ref_go 113
theorem d_Ref_go_180 : decode (jm_cod M_Ref_go) 180 = .ok (.aload_n 0, 1) := dt_Ref_go 114
theorem d_Ref_go_181 : decode (jm_cod M_Ref_go) 181 = .ok (.iload_n 2, 1) := dt_Ref_go 115
theorem d_Ref_go_182 : decode (jm_cod M_Ref_go) 182 = .ok (.iconst 1, 1) := dt_Ref_go 116
theorem d_Ref_go_183 : decode (jm_cod M_Ref_go) 183 = .ok (.iadd, 1) := dt_Ref_go 117
theorem d_Ref_go_184 : decode (jm_cod M_Ref_go) 184 = .ok (.iload_n 3, 1) := dt_Ref_go 118
theorem d_Ref_go_185 : decode (jm_cod M_Ref_go) 185 = .ok (.invokevirtual 449, 3) := dt_Ref_go 119
theorem d_Ref_go_188 : decode (jm_cod M_Ref_go) 188 = .ok (.ifCond .eq 31, 3) := dt_Ref_go 120
theorem d_Ref_go_191 : decode (jm_cod M_Ref_go) 191 = .ok (.aload_n 0, 1) := dt_Ref_go 121
theorem d_Ref_go_192 : decode (jm_cod M_Ref_go) 192 = .ok (.iload_n 1, 1) := dt_Ref_go 122
theorem d_Ref_go_193 : decode (jm_cod M_Ref_go) 193 = .ok (.iload_n 3, 1) := dt_Ref_go 123
theorem d_Ref_go_194 : decode (jm_cod M_Ref_go) 194 = .ok (.ifCond .eq 14, 3) := dt_Ref_go 124
theorem d_Ref_go_197 : decode (jm_cod M_Ref_go) 197 = .ok (.aload_n 0, 1) := dt_Ref_go 125
theorem d_Ref_go_198 : decode (jm_cod M_Ref_go) 198 = .ok (.getfield 283, 3) := dt_Ref_go 126
theorem d_Ref_go_201 : decode (jm_cod M_Ref_go) 201 = .ok (.iload_n 2, 1) := dt_Ref_go 127
theorem d_Ref_go_202 : decode (jm_cod M_Ref_go) 202 = .ok (.iconst 1, 1) := dt_Ref_go 128
theorem d_Ref_go_203 : decode (jm_cod M_Ref_go) 203 = .ok (.iadd, 1) := dt_Ref_go 129
theorem d_Ref_go_204 : decode (jm_cod M_Ref_go) 204 = .ok (.iaload, 1) := dt_Ref_go 130
theorem d_Ref_go_205 : decode (jm_cod M_Ref_go) 205 = .ok (.goto 11, 3) := dt_Ref_go 131
theorem d_Ref_go_208 : decode (jm_cod M_Ref_go) 208 = .ok (.aload_n 0, 1) := dt_Ref_go 132
theorem d_Ref_go_209 : decode (jm_cod M_Ref_go) 209 = .ok (.getfield 97, 3) := dt_Ref_go 133
theorem d_Ref_go_212 : decode (jm_cod M_Ref_go) 212 = .ok (.iload_n 2, 1) := dt_Ref_go 134
theorem d_Ref_go_213 : decode (jm_cod M_Ref_go) 213 = .ok (.iconst 1, 1) := dt_Ref_go 135
theorem d_Ref_go_214 : decode (jm_cod M_Ref_go) 214 = .ok (.iadd, 1) := dt_Ref_go 136
theorem d_Ref_go_215 : decode (jm_cod M_Ref_go) 215 = .ok (.iaload, 1) := dt_Ref_go 137
theorem d_Ref_go_216 : decode (jm_cod M_Ref_go) 216 = .ok (.invokevirtual 466, 3) := dt_Ref_go 138
theorem d_Ref_go_219 : decode (jm_cod M_Ref_go) 219 = .ok (.return_, 1) := dt_Ref_go 139
def tab_Ref_goes : List (Nat × Instr × Nat) := [(0, .iload_n 2, 1), (1, .ifCond .eq 29, 3), (4, .aload_n 0, 1), (5, .getfield 274, 3), (8, .iload_n 1, 1), (9, .baload, 1), (10, .ifCond .eq 16, 3), (13, .aload_n 0, 1), (14, .getfield 277, 3), (17, .iload_n 1, 1), (18, .baload, 1), (19, .ifCond .eq 7, 3), (22, .iconst 1, 1), (23, .goto 30, 3), (26, .iconst 0, 1), (27, .goto 26, 3), (30, .aload_n 0, 1), (31, .getfield 88, 3), (34, .iload_n 1, 1), (35, .baload, 1), (36, .ifCond .eq 16, 3), (39, .aload_n 0, 1), (40, .getfield 91, 3), (43, .iload_n 1, 1), (44, .baload, 1), (45, .ifCond .eq 7, 3), (48, .iconst 1, 1), (49, .goto 4, 3), (52, .iconst 0, 1), (53, .ireturn, 1)]
theorem dt_Ref_goes (i : Nat) : decode (jm_cod M_Ref_goes) (tab_Ref_goes.getD i (0, .iload_n 2, 1)).1 = .ok ((tab_Ref_goes.getD i (0, .iload_n 2, 1)).2.1, (tab_Ref_goes.getD i (0, .iload_n 2, 1)).2.2) := j_tab (by decide +kernel) i
theorem d_Ref_goes_0 : decode (jm_cod M_Ref_goes) 0 = .ok (.iload_n 2, 1) := dt_Ref_goes 0
theorem d_Ref_goes_1 : decode (jm_cod M_Ref_goes) 1 = .ok (.ifCond .eq 29, 3) := dt_Ref_goes 1
theorem d_Ref_goes_4 : decode (jm_cod M_Ref_goes) 4 = .ok (.aload_n 0, 1) := dt_Ref_goes 2
theorem d_Ref_goes_5 : decode (jm_cod M_Ref_goes) 5 = .ok (.getfield 274, 3) := dt_Ref_goes 3
theorem d_Ref_goes_8 : decode (jm_cod M_Ref_goes) 8 = .ok (.iload_n 1, 1) := dt_Ref_goes 4
theorem d_Ref_goes_9 : decode (jm_cod M_Ref_goes) 9 = .ok (.baload, 1) := dt_Ref_goes 5
theorem d_Ref_goes_10 : decode (jm_cod M_Ref_goes) 10 = .ok (.ifCond .eq 16, 3) := dt_Ref_goes 6
theorem d_Ref_goes_13 : decode (jm_cod M_Ref_goes) 13 = .ok (.aload_n 0, 1) := dt_Ref_goes 7
theorem d_Ref_goes_14 : decode (jm_cod M_Ref_goes) 14 = .ok (.getfield 277, 3) := dt_Ref_goes 8
theorem d_Ref_goes_17 : decode (jm_cod M_Ref_goes) 17 = .ok (.iload_n 1, 1) := dt_Ref_goes 9
theorem d_Ref_goes_18 : decode (jm_cod M_Ref_goes) 18 = .ok (.baload, 1) := dt_Ref_goes 10
theorem d_Ref_goes_19 : decode (jm_cod M_Ref_goes) 19 = .ok (.ifCond .eq 7, 3) := dt_Ref_goes 11
theorem d_Ref_goes_22 : decode (jm_cod M_Ref_goes) 22 = .ok (.iconst 1, 1) := dt_Ref_goes 12
theorem d_Ref_goes_23 : decode (jm_cod M_Ref_goes) 23 = .ok (.goto 30, 3) := dt_Ref_goes 13
theorem d_Ref_goes_26 : decode (jm_cod M_Ref_goes) 26 = .ok (.iconst 0, 1) := dt_Ref_goes 14
theorem d_Ref_goes_27 : decode (jm_cod M_Ref_goes) 27 = .ok (.goto 26, 3) := dt_Ref_goes 15
theorem d_Ref_goes_30 : decode (jm_cod M_Ref_goes) 30 = .ok (.aload_n 0, 1) := dt_Ref_goes 16
theorem d_Ref_goes_31 : decode (jm_cod M_Ref_goes) 31 = .ok (.getfield 88, 3) := dt_Ref_goes 17
theorem d_Ref_goes_34 : decode (jm_cod M_Ref_goes) 34 = .ok (.iload_n 1, 1) := dt_Ref_goes 18
theorem d_Ref_goes_35 : decode (jm_cod M_Ref_goes) 35 = .ok (.baload, 1) := dt_Ref_goes 19
theorem d_Ref_goes_36 : decode (jm_cod M_Ref_goes) 36 = .ok (.ifCond .eq 16, 3) := dt_Ref_goes 20
theorem d_Ref_goes_39 : decode (jm_cod M_Ref_goes) 39 = .ok (.aload_n 0, 1) := dt_Ref_goes 21
theorem d_Ref_goes_40 : decode (jm_cod M_Ref_goes) 40 = .ok (.getfield 91, 3) := dt_Ref_goes 22
theorem d_Ref_goes_43 : decode (jm_cod M_Ref_goes) 43 = .ok (.iload_n 1, 1) := dt_Ref_goes 23
theorem d_Ref_goes_44 : decode (jm_cod M_Ref_goes) 44 = .ok (.baload, 1) := dt_Ref_goes 24
theorem d_Ref_goes_45 : decode (jm_cod M_Ref_goes) 45 = .ok (.ifCond .eq 7, 3) := dt_Ref_goes 25
theorem d_Ref_goes_48 : decode (jm_cod M_Ref_goes) 48 = .ok (.iconst 1, 1) := dt_Ref_goes 26
theorem d_Ref_goes_49 : decode (jm_cod M_Ref_goes) 49 = .ok (.goto 4, 3) := dt_Ref_goes 27
theorem d_Ref_goes_52 : decode (jm_cod M_Ref_goes) 52 = .ok (.iconst 0, 1) := dt_Ref_goes 28
theorem d_Ref_goes_53 : decode (jm_cod M_Ref_goes) 53 = .ok (.ireturn, 1) := dt_Ref_goes 29
def tab_Ref_goB : List (Nat × Instr × Nat) := [(0, .aload_n 0, 1), (1, .iload_n 1, 1), (2, .iload_n 2, 1), (3, .invokevirtual 422, 3), (6, .istore_n 3, 1), (7, .iload_n 3, 1), (8, .iconst (-1), 1), (9, .if_icmp .eq 9, 3), (12, .aload_n 0, 1), (13, .iload_n 1, 1), (14, .iload_n 3, 1), (15, .invokevirtual 428, 3), (18, .return_, 1)]
theorem dt_Ref_goB (i : Nat) : decode (jm_cod M_Ref_goB) (tab_Ref_goB.getD i (0, .aload_n 0, 1)).1 = .ok ((tab_Ref_goB.getD i (0, .aload_n 0, 1)).2.1, (tab_Ref_goB.getD i (0, .aload_n 0, 1)).2.2) := j_tab (by decide +kernel) i
theorem d_Ref_goB_0 : decode (jm_cod M_Ref_goB) 0 = .ok (.aload_n 0, 1) := dt_Ref_goB 0
theorem d_Ref_goB_1 : decode (jm_cod M_Ref_goB) 1 = .ok (.iload_n 1, 1) := dt_Ref_goB 1
theorem d_Ref_goB_2 : decode (jm_cod M_Ref_goB) 2 = .ok (.iload_n 2, 1) := dt_Ref_goB 2
theorem d_Ref_goB_3 : decode (jm_cod M_Ref_goB) 3 = .ok (.invokevirtual 422, 3) := dt_Ref_goB 3
theorem d_Ref_goB_6 : decode (jm_cod M_Ref_goB) 6 = .ok (.istore_n 3, 1) := dt_Ref_goB 4
theorem d_Ref_goB_7 : decode (jm_cod M_Ref_goB) 7 = .ok (.iload_n 3, 1) := dt_Ref_goB 5
theorem d_Ref_goB_8 : decode (jm_cod M_Ref_goB) 8 = .ok (.iconst (-1), 1) := dt_Ref_goB 6
theorem d_Ref_goB_9 : decode (jm_cod M_Ref_goB) 9 = .ok (.if_icmp .eq 9, 3) := dt_Ref_goB 7
theorem d_Ref_goB_12 : decode (jm_cod M_Ref_goB) 12 = .ok (.aload_n 0, 1) := dt_Ref_goB 8
theorem d_Ref_goB_13 : decode (jm_cod M_Ref_goB) 13 = .ok (.iload_n 1, 1) := dt_Ref_goB 9
theorem d_Ref_goB_14 : decode (jm_cod M_Ref_goB) 14 = .ok (.iload_n 3, 1) := dt_Ref_goB 10
theorem d_Ref_goB_15 : decode (jm_cod M_Ref_goB) 15 = .ok (.invokevirtual 428, 3) := dt_Ref_goB 11
theorem d_Ref_goB_18 : decode (jm_cod M_Ref_goB) 18 = .ok (.return_, 1) := dt_Ref_goB 12
def tab_Ref_dropWrite : List (Nat × Instr × Nat) := [(0, .aload_n 0, 1), (1, .getfield 247, 3), (4, .iload_n 1, 1), (5, .dup2, 1), (6, .iaload, 1), (7, .iconst 1, 1), (8, .isub, 1), (9, .iastore, 1), (10, .iload_n 2, 1), (11, .istore_n 3, 1), (12, .iload_n 3, 1), (13, .bipush 16, 2), (15, .iload_n 1, 1), (16, .imul, 1), (17, .aload_n 0, 1), (18, .getfield 247, 3), (21, .iload_n 1, 1), (22, .iaload, 1), (23, .iadd, 1), (24, .if_icmp .ge 108, 3), (27, .aload_n 0, 1), (28, .getfield 253, 3), (31, .iload_n 3, 1), (32, .aload_n 0, 1), (33, .getfield 253, 3), (36, .iload_n 3, 1), (37, .iconst 1, 1), (38, .iadd, 1), (39, .baload, 1), (40, .bastore, 1), (41, .aload_n 0, 1), (42, .getfield 256, 3), (45, .iload_n 3, 1), (46, .aload_n 0, 1), (47, .getfield 256, 3), (50, .iload_n 3, 1), (51, .iconst 1, 1), (52, .iadd, 1), (53, .laload, 1), (54, .lastore, 1), (55, .aload_n 0, 1), (56, .getfield 259, 3), (59, .iload_n 3, 1), (60, .aload_n 0, 1), (61, .getfield 259, 3), (64, .iload_n 3, 1), (65, .iconst 1, 1), (66, .iadd, 1), (67, .iaload, 1), (68, .iastore, 1), (69, .aload_n 0, 1), (70, .getfield 262, 3), (73, .iload_n 3, 1), (74, .aload_n 0, 1), (75, .getfield 262, 3), (78, .iload_n 3, 1), (79, .iconst 1, 1), (80, .iadd, 1), (81, .baload, 1), (82, .bastore, 1), (83, .iconst 0, 1), (84, .istore 4, 2), (86, .iload 4, 2), (88, .bipush 16, 2), (90, .if_icmp .ge 36, 3), (93, .aload_n 0, 1), (94, .getfield 265, 3), (97, .bipush 16, 2), (99, .iload_n 3, 1), (100, .imul, 1), (101, .iload 4, 2), (103, .iadd, 1), (104, .aload_n 0, 1), (105, .getfield 265, 3), (108, .bipush 16, 2), (110, .iload_n 3, 1), (111, .imul, 1), (112, .bipush 16, 2), (114, .iadd, 1), (115, .iload 4, 2), (117, .iadd, 1), (118, .iaload, 1), (119, .iastore, 1), (120, .iinc 4 1, 3), (123, .goto (-37), 3), (126, .iinc 3 1, 3), (129, .goto (-117), 3), (132, .return_, 1)]
theorem dt_Ref_dropWrite (i : Nat) : decode (jm_cod M_Ref_dropWrite) (tab_Ref_dropWrite.getD i (0, .aload_n 0, 1)).1 = .ok ((tab_Ref_dropWrite.getD i (0, .aload_n 0, 1)).2.1, (tab_Ref_dropWrite.getD i (0, .aload_n 0, 1)).2.2) := j_tab (by decide +kernel) i
theorem d_Ref_dropWrite_0 : decode (jm_cod M_Ref_dropWrite) 0 = .ok (.aload_n 0, 1) := dt_Ref_dropWrite 0
theorem d_Ref_dropWrite_1 : decode (jm_cod M_Ref_dropWrite) 1 = .ok (.getfield 247, 3) := dt_Ref_dropWrite 1
theorem d_Ref_dropWrite_4 : decode (jm_cod M_Ref_dropWrite) 4 = .ok (.iload_n 1, 1) := dt_Ref_dropWrite 2
theorem d_Ref_dropWrite_5 : decode (jm_cod M_Ref_dropWrite) 5 = .ok (.dup2, 1) := dt_Ref_dropWrite 3
theorem d_Ref_dropWrite_6 : decode (jm_cod M_Ref_dropWrite) 6 = .ok (.iaload, 1) := dt_Ref_dropWrite 4
theorem d_Ref_dropWrite_7 : decode (jm_cod M_Ref_dropWrite) 7 = .ok (.iconst 1, 1) := dt_Ref_dropWrite 5
theorem d_Ref_dropWrite_8 : decode (jm_cod M_Ref_dropWrite) 8 = .ok (.isub, 1) := dt_Ref_dropWrite 6
theorem d_Ref_dropWrite_9 : decode (jm_cod M_Ref_dropWrite) 9 = .ok (.iastore, 1) := dt_Ref_dropWrite 7
theorem d_Ref_dropWrite_10 : decode (jm_cod M_Ref_dropWrite) 10 = .ok (.iload_n 2, 1) := dt_Ref_dropWrite 8
theorem d_Ref_dropWrite_11 : decode (jm_cod M_Ref_dropWrite) 11 = .ok (.istore_n 3, 1) := dt_Ref_dropWrite 9
theorem d_Ref_dropWrite_12 : decode (jm_cod M_Ref_dropWrite) 12 = .ok (.iload_n 3, 1) := dt_Ref_dropWrite 10
theorem d_Ref_dropWrite_13 : decode (jm_cod M_Ref_dropWrite) 13 = .ok (.bipush 16, 2) := dt_Ref_dropWrite 11
theorem d_Ref_dropWrite_15 : decode (jm_cod M_Ref_dropWrite) 15 = .ok (.iload_n 1, 1) := dt_Ref_dropWrite 12
theorem d_Ref_dropWrite_16 : decode (jm_cod M_Ref_dropWrite) 16 = .ok (.imul, 1) := dt_Ref_dropWrite 13
theorem d_Ref_dropWrite_17 : decode (jm_cod M_Ref_dropWrite) 17 = .ok (.aload_n 0, 1) := dt_Ref_dropWrite 14
theorem d_Ref_dropWrite_18 : decode (jm_cod M_Ref_dropWrite) 18 = .ok (.getfield 247, 3) := dt_Ref_dropWrite 15
theorem d_Ref_dropWrite_21 : decode (jm_cod M_Ref_dropWrite) 21 = .ok (.iload_n 1, 1) := dt_Ref_dropWrite 16
theorem d_Ref_dropWrite_22 : decode (jm_cod M_Ref_dropWrite) 22 = .ok (.iaload, 1) := dt_Ref_dropWrite 17
theorem d_Ref_dropWrite_23 : decode (jm_cod M_Ref_dropWrite) 23 = .ok (.iadd, 1) := dt_Ref_dropWrite 18
theorem d_Ref_dropWrite_24 : decode (jm_cod M_Ref_dropWrite) 24 = .ok (.if_icmp .ge 108, 3) := dt_Ref_dropWrite 19
theorem d_Ref_dropWrite_27 : decode (jm_cod M_Ref_dropWrite) 27 = .ok (.aload_n 0, 1) := dt_Ref_dropWrite 20
theorem d_Ref_dropWrite_28 : decode (jm_cod M_Ref_dropWrite) 28 = .ok (.getfield 253, 3) := dt_Ref_dropWrite 21
theorem d_Ref_dropWrite_31 : decode (jm_cod M_Ref_dropWrite) 31 = .ok (.iload_n 3, 1) := dt_Ref_dropWrite 22
theorem d_Ref_dropWrite_32 : decode (jm_cod M_Ref_dropWrite) 32 = .ok (.aload_n 0, 1) := dt_Ref_dropWrite 23
theorem d_Ref_dropWrite_33 : decode (jm_cod M_Ref_dropWrite) 33 = .ok (.getfield 253, 3) := dt_Ref_dropWrite 24
theorem d_Ref_dropWrite_36 : decode (jm_cod M_Ref_dropWrite) 36 = .ok (.iload_n 3, 1) := dt_Ref_dropWrite 25
theorem d_Ref_dropWrite_37 : decode (jm_cod M_Ref_dropWrite) 37 = .ok (.iconst 1, 1) := dt_Ref_dropWrite 26
theorem d_Ref_dropWrite_38 : decode (jm_cod M_Ref_dropWrite) 38 = .ok (.iadd, 1) := dt_Ref_dropWrite 27
theorem d_Ref_dropWrite_39 : decode (jm_cod M_Ref_dropWrite) 39 = .ok (.baload, 1) := dt_Ref_dropWrite 28
theorem d_Ref_dropWrite_40 : decode (jm_cod M_Ref_dropWrite) 40 = .ok (.bastore, 1) := dt_Ref_dropWrite 29
theorem d_Ref_dropWrite_41 : decode (jm_cod M_Ref_dropWrite) 41 = .ok (.aload_n 0, 1) := dt_Ref_dropWrite 30
theorem d_Ref_dropWrite_42 : decode (jm_cod M_Ref_dropWrite) 42 = .ok (.getfield 256, 3) := dt_Ref_dropWrite 31
theorem d_Ref_dropWrite_45 : decode (jm_cod M_Ref_dropWrite) 45 = .ok (.iload_n 3, 1) := dt_Ref_dropWrite 32
theorem d_Ref_dropWrite_46 : decode (jm_cod M_Ref_dropWrite) 46 = .ok (.aload_n 0, 1) := dt_Ref_dropWrite 33
theorem d_Ref_dropWrite_47 : decode (jm_cod M_Ref_dropWrite) 47 = .ok (.getfield 256, 3) := dt_Ref_dropWrite 34
theorem d_Ref_dropWrite_50 : decode (jm_cod M_Ref_dropWrite) 50 = .ok (.iload_n 3, 1) := dt_Ref_dropWrite 35
theorem d_Ref_dropWrite_51 : decode (jm_cod M_Ref_dropWrite) 51 = .ok (.iconst 1, 1) := dt_Ref_dropWrite 36
theorem d_Ref_dropWrite_52 : decode (jm_cod M_Ref_dropWrite) 52 = .ok (.iadd, 1) := dt_Ref_dropWrite 37
theorem d_Ref_dropWrite_53 : decode (jm_cod M_Ref_dropWrite) 53 = .ok (.laload, 1) := dt_Ref_dropWrite 38
theorem d_Ref_dropWrite_54 : decode (jm_cod M_Ref_dropWrite) 54 = .ok (.lastore, 1) := dt_Ref_dropWrite 39
theorem d_Ref_dropWrite_55 : decode (jm_cod M_Ref_dropWrite) 55 = .ok (.aload_n 0, 1) := dt_Ref_dropWrite 40
theorem d_Ref_dropWrite_56 : decode (jm_cod M_Ref_dropWrite) 56 = .ok (.getfield 259, 3) := dt_Ref_dropWrite 41
theorem d_Ref_dropWrite_59 : decode (jm_cod M_Ref_dropWrite) 59 = .ok (.iload_n 3, 1) := dt_Ref_dropWrite 42
theorem d_Ref_dropWrite_60 : decode (jm_cod M_Ref_dropWrite) 60 = .ok (.aload_n 0, 1) := dt_Ref_dropWrite 43
theorem d_Ref_dropWrite_61 : decode (jm_cod M_Ref_dropWrite) 61 = .ok (.getfield 259, 3) := dt_Ref_dropWrite 44
theorem d_Ref_dropWrite_64 : decode (jm_cod M_Ref_dropWrite) 64 = .ok (.iload_n 3, 1) := dt_Ref_dropWrite 45
theorem d_Ref_dropWrite_65 : decode (jm_cod M_Ref_dropWrite) 65 = .ok (.iconst 1, 1) := dt_Ref_dropWrite 46
theorem d_Ref_dropWrite_66 : decode (jm_cod M_Ref_dropWrite) 66 = .ok (.iadd, 1) := dt_Ref_dropWrite 47
theorem d_Ref_dropWrite_67 : decode (jm_cod M_Ref_dropWrite) 67 = .ok (.iaload, 1) := dt_Ref_dropWrite 48
theorem d_Ref_dropWrite_68 : decode (jm_cod M_Ref_dropWrite) 68 = .ok (.iastore, 1) := dt_Ref_dropWrite 49
theorem d_Ref_dropWrite_69 : decode (jm_cod M_Ref_dropWrite) 69 = .ok (.aload_n 0, 1) := dt_Ref_dropWrite 50
theorem d_Ref_dropWrite_70 : decode (jm_cod M_Ref_dropWrite) 70 = .ok (.getfield 262, 3) := dt_Ref_dropWrite 51
theorem d_Ref_dropWrite_73 : decode (jm_cod M_Ref_dropWrite) 73 = .ok (.iload_n 3, 1) := dt_Ref_dropWrite 52
theorem d_Ref_dropWrite_74 : decode (jm_cod M_Ref_dropWrite) 74 = .ok (.aload_n 0, 1) := dt_Ref_dropWrite 53
theorem d_Ref_dropWrite_75 : decode (jm_cod M_Ref_dropWrite) 75 = .ok (.getfield 262, 3) := dt_Ref_dropWrite 54
theorem d_Ref_dropWrite_78 : decode (jm_cod M_Ref_dropWrite) 78 = .ok (.iload_n 3, 1) := dt_Ref_dropWrite 55
theorem d_Ref_dropWrite_79 : decode (jm_cod M_Ref_dropWrite) 79 = .ok (.iconst 1, 1) := dt_Ref_dropWrite 56
theorem d_Ref_dropWrite_80 : decode (jm_cod M_Ref_dropWrite) 80 = .ok (.iadd, 1) := dt_Ref_dropWrite 57
theorem d_Ref_dropWrite_81 : decode (jm_cod M_Ref_dropWrite) 81 = .ok (.baload, 1) := dt_Ref_dropWrite 58
theorem d_Ref_dropWrite_82 : decode (jm_cod M_Ref_dropWrite) 82 = .ok (.bastore, 1) := dt_Ref_dropWrite 59
theorem d_Ref_dropWrite_83 : decode (jm_cod M_Ref_dropWrite) 83 = .ok (.iconst 0, 1) := dt_Ref_dropWrite 60
theorem d_Ref_dropWrite_84 : decode (jm_cod M_Ref_dropWrite) 84 = .ok (.istore 4, 2) := dt_Ref_dropWrite 61
theorem d_Ref_dropWrite_86 : decode (jm_cod M_Ref_dropWrite) 86 = .ok (.iload 4, 2) := dt_Ref_dropWrite 62
theorem d_Ref_dropWrite_88 : decode (jm_cod M_Ref_dropWrite) 88 = .ok (.bipush 16, 2) := dt_Ref_dropWrite 63
theorem d_Ref_dropWrite_90 : decode (jm_cod M_Ref_dropWrite) 90 = .ok (.if_icmp .ge 36, 3) := dt_Ref_dropWrite 64
theorem d_Ref_dropWrite_93 : decode (jm_cod M_Ref_dropWrite) 93 = .ok (.aload_n 0, 1) := dt_Ref_dropWrite 65
theorem d_Ref_dropWrite_94 : decode (jm_cod M_Ref_dropWrite) 94 = .ok (.getfield 265, 3) := dt_Ref_dropWrite 66
theorem d_Ref_dropWrite_97 : decode (jm_cod M_Ref_dropWrite) 97 = .ok (.bipush 16, 2) := dt_Ref_dropWrite 67
theorem d_Ref_dropWrite_99 : decode (jm_cod M_Ref_dropWrite) 99 = .ok (.iload_n 3, 1) := dt_Ref_dropWrite 68
theorem d_Ref_dropWrite_100 : decode (jm_cod M_Ref_dropWrite) 100 = .ok (.imul, 1) := dt_Ref_dropWrite 69
theorem d_Ref_dropWrite_101 : decode (jm_cod M_Ref_dropWrite) 101 = .ok (.iload 4, 2) := dt_Ref_dropWrite 70
theorem d_Ref_dropWrite_103 : decode (jm_cod M_Ref_dropWrite) 103 = .ok (.iadd, 1) := dt_Ref_dropWrite 71
theorem d_Ref_dropWrite_104 : decode (jm_cod M_Ref_dropWrite) 104 = .ok (.aload_n 0, 1) := dt_Ref_dropWrite 72
theorem d_Ref_dropWrite_105 : decode (jm_cod M_Ref_dropWrite) 105 = .ok (.getfield 265, 3) := dt_Ref_dropWrite 73
theorem d_Ref_dropWrite_108 : decode (jm_cod M_Ref_dropWrite) 108 = .ok (.bipush 16, 2) := dt_Ref_dropWrite 74
theorem d_Ref_dropWrite_110 : decode (jm_cod M_Ref_dropWrite) 110 = .ok (.iload_n 3, 1) := dt_Ref_dropWrite 75
theorem d_Ref_dropWrite_111 : decode (jm_cod M_Ref_dropWrite) 111 = .ok (.imul, 1) := dt_Ref_dropWrite 76
theorem d_Ref_dropWrite_112 : decode (jm_cod M_Ref_dropWrite) 112 = .ok (.bipush 16, 2) := dt_Ref_dropWrite 77
theorem d_Ref_dropWrite_114 : decode (jm_cod M_Ref_dropWrite) 114 = .ok (.iadd, 1) := dt_Ref_dropWrite 78
theorem d_Ref_dropWrite_115 : decode (jm_cod M_Ref_dropWrite) 115 = .ok (.iload 4, 2) := dt_Ref_dropWrite 79
theorem d_Ref_dropWrite_117 : decode (jm_cod M_Ref_dropWrite) 117 = .ok (.iadd, 1) := dt_Ref_dropWrite 80
theorem d_Ref_dropWrite_118 : decode (jm_cod M_Ref_dropWrite) 118 = .ok (.iaload, 1) := dt_Ref_dropWrite 81
theorem d_Ref_dropWrite_119 : decode (jm_cod M_Ref_dropWrite) 119 = .ok (.iastore, 1) := dt_Ref_dropWrite 82
theorem d_Ref_dropWrite_120 : decode (jm_cod M_Ref_dropWrite) 120 = .ok (.iinc 4 1, 3) := dt_Ref_dropWrite 83
theorem d_Ref_dropWrite_123 : decode (jm_cod M_Ref_dropWrite) 123 = .ok (.goto (-37), 3) := dt_Ref_dropWrite 84
theorem d_Ref_dropWrite_126 : decode (jm_cod M_Ref_dropWrite) 126 = .ok (.iinc 3 1, 3) := dt_Ref_dropWrite 85
theorem d_Ref_dropWrite_129 : decode (jm_cod M_Ref_dropWrite) 129 = .ok (.goto (-117), 3) := dt_Ref_dropWrite 86
theorem d_Ref_dropWrite_132 : decode (jm_cod M_Ref_dropWrite) 132 = .ok (.return_, 1) := dt_Ref_dropWrite 87
def tab_Ref_goR : List (Nat × Instr × Nat) := [(0, .aload_n 0, 1), (1, .iload_n 1, 1), (2, .iload_n 2, 1), (3, .invokevirtual 425, 3), (6, .istore_n 3, 1), (7, .iload_n 3, 1), (8, .iconst (-1), 1), (9, .if_icmp .eq 37, 3), (12, .aload_n 0, 1), (13, .getfield 271, 3), (16, .iload_n 3, 1), (17, .dup2, 1), (18, .iaload, 1), (19, .iconst 1, 1), (20, .iadd, 1), (21, .iastore, 1), (22, .aload_n 0, 1), (23, .getfield 271, 3), (26, .iload_n 3, 1), (27, .iaload, 1), (28, .aload_n 0, 1), (29, .getfield 268, 3), (32, .iload_n 3, 1), (33, .laload, 1), (34, .invokestatic 321, 3), (37, .if_icmp .ne 9, 3), (40, .aload_n 0, 1), (41, .iload_n 1, 1), (42, .iload_n 3, 1), (43, .invokevirtual 431, 3), (46, .return_, 1)]
theorem dt_Ref_goR (i : Nat) : decode (jm_cod M_Ref_goR) (tab_Ref_goR.getD i (0, .aload_n 0, 1)).1 = .ok ((tab_Ref_goR.getD i (0, .aload_n 0, 1)).2.1, (tab_Ref_goR.getD i (0, .aload_n 0, 1)).2.2) := j_tab (by decide +kernel) i
theorem d_Ref_goR_0 : decode (jm_cod M_Ref_goR) 0 = .ok (.aload_n 0, 1) := dt_Ref_goR 0
theorem d_Ref_goR_1 : decode (jm_cod M_Ref_goR) 1 = .ok (.iload_n 1, 1) := dt_Ref_goR 1
theorem d_Ref_goR_2 : decode (jm_cod M_Ref_goR) 2 = .ok (.iload_n 2, 1) := dt_Ref_goR 2
theorem d_Ref_goR_3 : decode (jm_cod M_Ref_goR) 3 = .ok (.invokevirtual 425, 3) := dt_Ref_goR 3
theorem d_Ref_goR_6 : decode (jm_cod M_Ref_goR) 6 = .ok (.istore_n 3, 1) := dt_Ref_goR 4
theorem d_Ref_goR_7 : decode (jm_cod M_Ref_goR) 7 = .ok (.iload_n 3, 1) := dt_Ref_goR 5
theorem d_Ref_goR_8 : decode (jm_cod M_Ref_goR) 8 = .ok (.iconst (-1), 1) := dt_Ref_goR 6
theorem d_Ref_goR_9 : decode (jm_cod M_Ref_goR) 9 = .ok (.if_icmp .eq 37, 3) := dt_Ref_goR 7
theorem d_Ref_goR_12 : decode (jm_cod M_Ref_goR) 12 = .ok (.aload_n 0, 1) := dt_Ref_goR 8
theorem d_Ref_goR_13 : decode (jm_cod M_Ref_goR) 13 = .ok (.getfield 271, 3) := dt_Ref_goR 9
theorem d_Ref_goR_16 : decode (jm_cod M_Ref_goR) 16 = .ok (.iload_n 3, 1) := dt_Ref_goR 10
theorem d_Ref_goR_17 : decode (jm_cod M_Ref_goR) 17 = .ok (.dup2, 1) := dt_Ref_goR 11
theorem d_Ref_goR_18 : decode (jm_cod M_Ref_goR) 18 = .ok (.iaload, 1) := dt_Ref_goR 12
theorem d_Ref_goR_19 : decode (jm_cod M_Ref_goR) 19 = .ok (.iconst 1, 1) := dt_Ref_goR 13
theorem d_Ref_goR_20 : decode (jm_cod M_Ref_goR) 20 = .ok (.iadd, 1) := dt_Ref_goR 14
theorem d_Ref_goR_21 : decode (jm_cod M_Ref_goR) 21 = .ok (.iastore, 1) := dt_Ref_goR 15
theorem d_Ref_goR_22 : decode (jm_cod M_Ref_goR) 22 = .ok (.aload_n 0, 1) := dt_Ref_goR 16
theorem d_Ref_goR_23 : decode (jm_cod M_Ref_goR) 23 = .ok (.getfield 271, 3) := dt_Ref_goR 17
theorem d_Ref_goR_26 : decode (jm_cod M_Ref_goR) 26 = .ok (.iload_n 3, 1) := dt_Ref_goR 18
theorem d_Ref_goR_27 : decode (jm_cod M_Ref_goR) 27 = .ok (.iaload, 1) := dt_Ref_goR 19
theorem d_Ref_goR_28 : decode (jm_cod M_Ref_goR) 28 = .ok (.aload_n 0, 1) := dt_Ref_goR 20
theorem d_Ref_goR_29 : decode (jm_cod M_Ref_goR) 29 = .ok (.getfield 268, 3) := dt_Ref_goR 21
theorem d_Ref_goR_32 : decode (jm_cod M_Ref_goR) 32 = .ok (.iload_n 3, 1) := dt_Ref_goR 22
theorem d_Ref_goR_33 : decode (jm_cod M_Ref_goR) 33 = .ok (.laload, 1) := dt_Ref_goR 23
theorem d_Ref_goR_34 : decode (jm_cod M_Ref_goR) 34 = .ok (.invokestatic 321, 3) := dt_Ref_goR 24
theorem d_Ref_goR_37 : decode (jm_cod M_Ref_goR) 37 = .ok (.if_icmp .ne 9, 3) := dt_Ref_goR 25
theorem d_Ref_goR_40 : decode (jm_cod M_Ref_goR) 40 = .ok (.aload_n 0, 1) := dt_Ref_goR 26
theorem d_Ref_goR_41 : decode (jm_cod M_Ref_goR) 41 = .ok (.iload_n 1, 1) := dt_Ref_goR 27
theorem d_Ref_goR_42 : decode (jm_cod M_Ref_goR) 42 = .ok (.iload_n 3, 1) := dt_Ref_goR 28
theorem d_Ref_goR_43 : decode (jm_cod M_Ref_goR) 43 = .ok (.invokevirtual 431, 3) := dt_Ref_goR 29
theorem d_Ref_goR_46 : decode (jm_cod M_Ref_goR) 46 = .ok (.return_, 1) := dt_Ref_goR 30
def tab_Ref_dropRead : List (Nat × Instr × Nat) := [(0, .aload_n 0, 1), (1, .getfield 250, 3), (4, .iload_n 1, 1), (5, .dup2, 1), (6, .iaload, 1), (7, .iconst 1, 1), (8, .isub, 1), (9, .iastore, 1), (10, .iload_n 2, 1), (11, .istore_n 3, 1), (12, .iload_n 3, 1), (13, .bipush 16, 2), (15, .iload_n 1, 1), (16, .imul, 1), (17, .aload_n 0, 1), (18, .getfield 250, 3), (21, .iload_n 1, 1), (22, .iaload, 1), (23, .iadd, 1), (24, .if_icmp .ge 37, 3), (27, .aload_n 0, 1), (28, .getfield 268, 3), (31, .iload_n 3, 1), (32, .aload_n 0, 1), (33, .getfield 268, 3), (36, .iload_n 3, 1), (37, .iconst 1, 1), (38, .iadd, 1), (39, .laload, 1), (40, .lastore, 1), (41, .aload_n 0, 1), (42, .getfield 271, 3), (45, .iload_n 3, 1), (46, .aload_n 0, 1), (47, .getfield 271, 3), (50, .iload_n 3, 1), (51, .iconst 1, 1), (52, .iadd, 1), (53, .iaload, 1), (54, .iastore, 1), (55, .iinc 3 1, 3), (58, .goto (-46), 3), (61, .return_, 1)]
theorem dt_Ref_dropRead (i : Nat) : decode (jm_cod M_Ref_dropRead) (tab_Ref_dropRead.getD i (0, .aload_n 0, 1)).1 = .ok ((tab_Ref_dropRead.getD i (0, .aload_n 0, 1)).2.1, (tab_Ref_dropRead.getD i (0, .aload_n 0, 1)).2.2) := j_tab (by decide +kernel) i
theorem d_Ref_dropRead_0 : decode (jm_cod M_Ref_dropRead) 0 = .ok (.aload_n 0, 1) := dt_Ref_dropRead 0
theorem d_Ref_dropRead_1 : decode (jm_cod M_Ref_dropRead) 1 = .ok (.getfield 250, 3) := dt_Ref_dropRead 1
theorem d_Ref_dropRead_4 : decode (jm_cod M_Ref_dropRead) 4 = .ok (.iload_n 1, 1) := dt_Ref_dropRead 2
theorem d_Ref_dropRead_5 : decode (jm_cod M_Ref_dropRead) 5 = .ok (.dup2, 1) := dt_Ref_dropRead 3
theorem d_Ref_dropRead_6 : decode (jm_cod M_Ref_dropRead) 6 = .ok (.iaload, 1) := dt_Ref_dropRead 4
theorem d_Ref_dropRead_7 : decode (jm_cod M_Ref_dropRead) 7 = .ok (.iconst 1, 1) := dt_Ref_dropRead 5
theorem d_Ref_dropRead_8 : decode (jm_cod M_Ref_dropRead) 8 = .ok (.isub, 1) := dt_Ref_dropRead 6
theorem d_Ref_dropRead_9 : decode (jm_cod M_Ref_dropRead) 9 = .ok (.iastore, 1) := dt_Ref_dropRead 7
theorem d_Ref_dropRead_10 : decode (jm_cod M_Ref_dropRead) 10 = .ok (.iload_n 2, 1) := dt_Ref_dropRead 8
theorem d_Ref_dropRead_11 : decode (jm_cod M_Ref_dropRead) 11 = .ok (.istore_n 3, 1) := dt_Ref_dropRead 9
theorem d_Ref_dropRead_12 : decode (jm_cod M_Ref_dropRead) 12 = .ok (.iload_n 3, 1) := dt_Ref_dropRead 10
theorem d_Ref_dropRead_13 : decode (jm_cod M_Ref_dropRead) 13 = .ok (.bipush 16, 2) := dt_Ref_dropRead 11
theorem d_Ref_dropRead_15 : decode (jm_cod M_Ref_dropRead) 15 = .ok (.iload_n 1, 1) := dt_Ref_dropRead 12
theorem d_Ref_dropRead_16 : decode (jm_cod M_Ref_dropRead) 16 = .ok (.imul, 1) := dt_Ref_dropRead 13
theorem d_Ref_dropRead_17 : decode (jm_cod M_Ref_dropRead) 17 = .ok (.aload_n 0, 1) := dt_Ref_dropRead 14
theorem d_Ref_dropRead_18 : decode (jm_cod M_Ref_dropRead) 18 = .ok (.getfield 250, 3) := dt_Ref_dropRead 15
theorem d_Ref_dropRead_21 : decode (jm_cod M_Ref_dropRead) 21 = .ok (.iload_n 1, 1) := dt_Ref_dropRead 16
theorem d_Ref_dropRead_22 : decode (jm_cod M_Ref_dropRead) 22 = .ok (.iaload, 1) := dt_Ref_dropRead 17
theorem d_Ref_dropRead_23 : decode (jm_cod M_Ref_dropRead) 23 = .ok (.iadd, 1) := dt_Ref_dropRead 18
theorem d_Ref_dropRead_24 : decode (jm_cod M_Ref_dropRead) 24 = .ok (.if_icmp .ge 37, 3) := dt_Ref_dropRead 19
theorem d_Ref_dropRead_27 : decode (jm_cod M_Ref_dropRead) 27 = .ok (.aload_n 0, 1) := dt_Ref_dropRead 20
theorem d_Ref_dropRead_28 : decode (jm_cod M_Ref_dropRead) 28 = .ok (.getfield 268, 3) := dt_Ref_dropRead 21
theorem d_Ref_dropRead_31 : decode (jm_cod M_Ref_dropRead) 31 = .ok (.iload_n 3, 1) := dt_Ref_dropRead 22
theorem d_Ref_dropRead_32 : decode (jm_cod M_Ref_dropRead) 32 = .ok (.aload_n 0, 1) := dt_Ref_dropRead 23
theorem d_Ref_dropRead_33 : decode (jm_cod M_Ref_dropRead) 33 = .ok (.getfield 268, 3) := dt_Ref_dropRead 24
theorem d_Ref_dropRead_36 : decode (jm_cod M_Ref_dropRead) 36 = .ok (.iload_n 3, 1) := dt_Ref_dropRead 25
theorem d_Ref_dropRead_37 : decode (jm_cod M_Ref_dropRead) 37 = .ok (.iconst 1, 1) := dt_Ref_dropRead 26
theorem d_Ref_dropRead_38 : decode (jm_cod M_Ref_dropRead) 38 = .ok (.iadd, 1) := dt_Ref_dropRead 27
theorem d_Ref_dropRead_39 : decode (jm_cod M_Ref_dropRead) 39 = .ok (.laload, 1) := dt_Ref_dropRead 28
theorem d_Ref_dropRead_40 : decode (jm_cod M_Ref_dropRead) 40 = .ok (.lastore, 1) := dt_Ref_dropRead 29
theorem d_Ref_dropRead_41 : decode (jm_cod M_Ref_dropRead) 41 = .ok (.aload_n 0, 1) := dt_Ref_dropRead 30
theorem d_Ref_dropRead_42 : decode (jm_cod M_Ref_dropRead) 42 = .ok (.getfield 271, 3) := dt_Ref_dropRead 31
theorem d_Ref_dropRead_45 : decode (jm_cod M_Ref_dropRead) 45 = .ok (.iload_n 3, 1) := dt_Ref_dropRead 32
theorem d_Ref_dropRead_46 : decode (jm_cod M_Ref_dropRead) 46 = .ok (.aload_n 0, 1) := dt_Ref_dropRead 33
theorem d_Ref_dropRead_47 : decode (jm_cod M_Ref_dropRead) 47 = .ok (.getfield 271, 3) := dt_Ref_dropRead 34
theorem d_Ref_dropRead_50 : decode (jm_cod M_Ref_dropRead) 50 = .ok (.iload_n 3, 1) := dt_Ref_dropRead 35
theorem d_Ref_dropRead_51 : decode (jm_cod M_Ref_dropRead) 51 = .ok (.iconst 1, 1) := dt_Ref_dropRead 36
theorem d_Ref_dropRead_52 : decode (jm_cod M_Ref_dropRead) 52 = .ok (.iadd, 1) := dt_Ref_dropRead 37
theorem d_Ref_dropRead_53 : decode (jm_cod M_Ref_dropRead) 53 = .ok (.iaload, 1) := dt_Ref_dropRead 38
theorem d_Ref_dropRead_54 : decode (jm_cod M_Ref_dropRead) 54 = .ok (.iastore, 1) := dt_Ref_dropRead 39
theorem d_Ref_dropRead_55 : decode (jm_cod M_Ref_dropRead) 55 = .ok (.iinc 3 1, 3) := dt_Ref_dropRead 40
theorem d_Ref_dropRead_58 : decode (jm_cod M_Ref_dropRead) 58 = .ok (.goto (-46), 3) := dt_Ref_dropRead 41
theorem d_Ref_dropRead_61 : decode (jm_cod M_Ref_dropRead) 61 = .ok (.return_, 1) := dt_Ref_dropRead 42
def tab_Ref_goAr : List (Nat × Instr × Nat) := [(0, .aload_n 0, 1), (1, .getfield 250, 3), (4, .iload_n 1, 1), (5, .iaload, 1), (6, .bipush 16, 2), (8, .if_icmp .ne 12, 3), (11, .aload_n 0, 1), (12, .iload_n 1, 1), (13, .bipush 12, 2), (15, .iconst 3, 1), (16, .invokevirtual 415, 3), (19, .return_, 1), (20, .aload_n 0, 1), (21, .getfield 268, 3), (24, .bipush 16, 2), (26, .iload_n 1, 1), (27, .imul, 1), (28, .aload_n 0, 1), (29, .getfield 250, 3), (32, .iload_n 1, 1), (33, .iaload, 1), (34, .iadd, 1), (35, .lload_n 2, 1), (36, .lastore, 1), (37, .aload_n 0, 1), (38, .getfield 271, 3), (41, .bipush 16, 2), (43, .iload_n 1, 1), (44, .imul, 1), (45, .aload_n 0, 1), (46, .getfield 250, 3), (49, .iload_n 1, 1), (50, .iaload, 1), (51, .iadd, 1), (52, .iconst 0, 1), (53, .iastore, 1), (54, .aload_n 0, 1), (55, .getfield 250, 3), (58, .iload_n 1, 1), (59, .dup2, 1), (60, .iaload, 1), (61, .iconst 1, 1), (62, .iadd, 1), (63, .iastore, 1), (64, .return_, 1)]
theorem dt_Ref_goAr (i : Nat) : decode (jm_cod M_Ref_goAr) (tab_Ref_goAr.getD i (0, .aload_n 0, 1)).1 = .ok ((tab_Ref_goAr.getD i (0, .aload_n 0, 1)).2.1, (tab_Ref_goAr.getD i (0, .aload_n 0, 1)).2.2) := j_tab (by decide +kernel) i
theorem d_Ref_goAr_0 : decode (jm_cod M_Ref_goAr) 0 = .ok (.aload_n 0, 1) := dt_Ref_goAr 0
theorem d_Ref_goAr_1 : decode (jm_cod M_Ref_goAr) 1 = .ok (.getfield 250, 3) := dt_Ref_goAr 1
theorem d_Ref_goAr_4 : decode (jm_cod M_Ref_goAr) 4 = .ok (.iload_n 1, 1) := dt_Ref_goAr 2
theorem d_Ref_goAr_5 : decode (jm_cod M_Ref_goAr) 5 = .ok (.iaload, 1) := dt_Ref_goAr 3
theorem d_Ref_goAr_6 : decode (jm_cod M_Ref_goAr) 6 = .ok (.bipush 16, 2) := dt_Ref_goAr 4
theorem d_Ref_goAr_8 : decode (jm_cod M_Ref_goAr) 8 = .ok (.if_icmp .ne 12, 3) := dt_Ref_goAr 5
theorem d_Ref_goAr_11 : decode (jm_cod M_Ref_goAr) 11 = .ok (.aload_n 0, 1) := dt_Ref_goAr 6
theorem d_Ref_goAr_12 : decode (jm_cod M_Ref_goAr) 12 = .ok (.iload_n 1, 1) := dt_Ref_goAr 7
theorem d_Ref_goAr_13 : decode (jm_cod M_Ref_goAr) 13 = .ok (.bipush 12, 2) := dt_Ref_goAr 8
theorem d_Ref_goAr_15 : decode (jm_cod M_Ref_goAr) 15 = .ok (.iconst 3, 1) := dt_Ref_goAr 9
theorem d_Ref_goAr_16 : decode (jm_cod M_Ref_goAr) 16 = .ok (.invokevirtual 415, 3) := dt_Ref_goAr 10
theorem d_Ref_goAr_19 : decode (jm_cod M_Ref_goAr) 19 = .ok (.return_, 1) := dt_Ref_goAr 11
theorem d_Ref_goAr_20 : decode (jm_cod M_Ref_goAr) 20 = .ok (.aload_n 0, 1) := dt_Ref_goAr 12
theorem d_Ref_goAr_21 : decode (jm_cod M_Ref_goAr) 21 = .ok (.getfield 268, 3) := dt_Ref_goAr 13
theorem d_Ref_goAr_24 : decode (jm_cod M_Ref_goAr) 24 = .ok (.bipush 16, 2) := dt_Ref_goAr 14
theorem d_Ref_goAr_26 : decode (jm_cod M_Ref_goAr) 26 = .ok (.iload_n 1, 1) := dt_Ref_goAr 15
theorem d_Ref_goAr_27 : decode (jm_cod M_Ref_goAr) 27 = .ok (.imul, 1) := dt_Ref_goAr 16
theorem d_Ref_goAr_28 : decode (jm_cod M_Ref_goAr) 28 = .ok (.aload_n 0, 1) := dt_Ref_goAr 17
theorem d_Ref_goAr_29 : decode (jm_cod M_Ref_goAr) 29 = .ok (.getfield 250, 3) := dt_Ref_goAr 18
theorem d_Ref_goAr_32 : decode (jm_cod M_Ref_goAr) 32 = .ok (.iload_n 1, 1) := dt_Ref_goAr 19
theorem d_Ref_goAr_33 : decode (jm_cod M_Ref_goAr) 33 = .ok (.iaload, 1) := dt_Ref_goAr 20
theorem d_Ref_goAr_34 : decode (jm_cod M_Ref_goAr) 34 = .ok (.iadd, 1) := dt_Ref_goAr 21
theorem d_Ref_goAr_35 : decode (jm_cod M_Ref_goAr) 35 = .ok (.lload_n 2, 1) := dt_Ref_goAr 22
theorem d_Ref_goAr_36 : decode (jm_cod M_Ref_goAr) 36 = .ok (.lastore, 1) := dt_Ref_goAr 23
theorem d_Ref_goAr_37 : decode (jm_cod M_Ref_goAr) 37 = .ok (.aload_n 0, 1) := dt_Ref_goAr 24
theorem d_Ref_goAr_38 : decode (jm_cod M_Ref_goAr) 38 = .ok (.getfield 271, 3) := dt_Ref_goAr 25
theorem d_Ref_goAr_41 : decode (jm_cod M_Ref_goAr) 41 = .ok (.bipush 16, 2) := dt_Ref_goAr 26
theorem d_Ref_goAr_43 : decode (jm_cod M_Ref_goAr) 43 = .ok (.iload_n 1, 1) := dt_Ref_goAr 27
theorem d_Ref_goAr_44 : decode (jm_cod M_Ref_goAr) 44 = .ok (.imul, 1) := dt_Ref_goAr 28
theorem d_Ref_goAr_45 : decode (jm_cod M_Ref_goAr) 45 = .ok (.aload_n 0, 1) := dt_Ref_goAr 29
theorem d_Ref_goAr_46 : decode (jm_cod M_Ref_goAr) 46 = .ok (.getfield 250, 3) := dt_Ref_goAr 30
theorem d_Ref_goAr_49 : decode (jm_cod M_Ref_goAr) 49 = .ok (.iload_n 1, 1) := dt_Ref_goAr 31
theorem d_Ref_goAr_50 : decode (jm_cod M_Ref_goAr) 50 = .ok (.iaload, 1) := dt_Ref_goAr 32
theorem d_Ref_goAr_51 : decode (jm_cod M_Ref_goAr) 51 = .ok (.iadd, 1) := dt_Ref_goAr 33
theorem d_Ref_goAr_52 : decode (jm_cod M_Ref_goAr) 52 = .ok (.iconst 0, 1) := dt_Ref_goAr 34
theorem d_Ref_goAr_53 : decode (jm_cod M_Ref_goAr) 53 = .ok (.iastore, 1) := dt_Ref_goAr 35
theorem d_Ref_goAr_54 : decode (jm_cod M_Ref_goAr) 54 = .ok (.aload_n 0, 1) := dt_Ref_goAr 36
theorem d_Ref_goAr_55 : decode (jm_cod M_Ref_goAr) 55 = .ok (.getfield 250, 3) := dt_Ref_goAr 37
theorem d_Ref_goAr_58 : decode (jm_cod M_Ref_goAr) 58 = .ok (.iload_n 1, 1) := dt_Ref_goAr 38
theorem d_Ref_goAr_59 : decode (jm_cod M_Ref_goAr) 59 = .ok (.dup2, 1) := dt_Ref_goAr 39
theorem d_Ref_goAr_60 : decode (jm_cod M_Ref_goAr) 60 = .ok (.iaload, 1) := dt_Ref_goAr 40
theorem d_Ref_goAr_61 : decode (jm_cod M_Ref_goAr) 61 = .ok (.iconst 1, 1) := dt_Ref_goAr 41
theorem d_Ref_goAr_62 : decode (jm_cod M_Ref_goAr) 62 = .ok (.iadd, 1) := dt_Ref_goAr 42
theorem d_Ref_goAr_63 : decode (jm_cod M_Ref_goAr) 63 = .ok (.iastore, 1) := dt_Ref_goAr 43
theorem d_Ref_goAr_64 : decode (jm_cod M_Ref_goAr) 64 = .ok (.return_, 1) := dt_Ref_goAr 44
def tab_Ref_goAw : List (Nat × Instr × Nat) := [(0, .iconst (-1), 1), (1, .istore 4, 2), (3, .iconst 0, 1), (4, .istore 5, 2), (6, .iload 5, 2), (8, .aload_n 0, 1), (9, .getfield 247, 3), (12, .iload_n 1, 1), (13, .iaload, 1), (14, .if_icmp .ge 43, 3), (17, .iload 4, 2), (19, .iconst (-1), 1), (20, .if_icmp .ne 37, 3), (23, .aload_n 0, 1), (24, .getfield 253, 3), (27, .bipush 16, 2), (29, .iload_n 1, 1), (30, .imul, 1), (31, .iload 5, 2), (33, .iadd, 1), (34, .baload, 1), (35, .ifCond .eq 7, 3), (38, .iconst (-1), 1), (39, .goto 10, 3), (42, .bipush 16, 2), (44, .iload_n 1, 1), (45, .imul, 1), (46, .iload 5, 2), (48, .iadd, 1), (49, .istore 4, 2), (51, .iinc 5 1, 3), (54, .goto (-48), 3), (57, .iload 4, 2), (59, .iconst (-1), 1), (60, .if_icmp .ne 12, 3), (63, .aload_n 0, 1), (64, .iload_n 1, 1), (65, .iconst 0, 1), (66, .invokevirtual 434, 3), (69, .goto 5, 3), (72, .iload 4, 2), (74, .istore 4, 2), (76, .iload 4, 2), (78, .iconst (-1), 1), (79, .if_icmp .ne 4, 3), (82, .return_, 1), (83, .aload_n 0, 1), (84, .getfield 253, 3), (87, .iload 4, 2), (89, .iconst 1, 1), (90, .bastore, 1), (91, .aload_n 0, 1), (92, .getfield 256, 3), (95, .iload 4, 2), (97, .lload_n 2, 1), (98, .lastore, 1), (99, .iconst 0, 1), (100, .istore 5, 2), (102, .iload 5, 2), (104, .aload_n 0, 1), (105, .getfield 259, 3), (108, .iload 4, 2), (110, .iaload, 1), (111, .if_icmp .ge 28, 3), (114, .aload_n 0, 1), (115, .getfield 238, 3), (118, .iload_n 1, 1), (119, .iaload, 1), (120, .ifCond .ne 19, 3), (123, .aload_n 0, 1), (124, .iload_n 1, 1), (125, .iload 4, 2), (127, .iload 5, 2), (129, .iconst 0, 1), (130, .invokevirtual 437, 3), (133, .iinc 5 1, 3), (136, .goto (-34), 3), (139, .return_, 1)]
theorem dt_Ref_goAw (i : Nat) : decode (jm_cod M_Ref_goAw) (tab_Ref_goAw.getD i (0, .iconst (-1), 1)).1 = .ok ((tab_Ref_goAw.getD i (0, .iconst (-1), 1)).2.1, (tab_Ref_goAw.getD i (0, .iconst (-1), 1)).2.2) := j_tab (by decide +kernel) i
theorem d_Ref_goAw_0 : decode (jm_cod M_Ref_goAw) 0 = .ok (.iconst (-1), 1) := dt_Ref_goAw 0
theorem d_Ref_goAw_1 : decode (jm_cod M_Ref_goAw) 1 = .ok (.istore 4, 2) := dt_Ref_goAw 1
theorem d_Ref_goAw_3 : decode (jm_cod M_Ref_goAw) 3 = .ok (.iconst 0, 1) := dt_Ref_goAw 2
theorem d_Ref_goAw_4 : decode (jm_cod M_Ref_goAw) 4 = .ok (.istore 5, 2) := dt_Ref_goAw 3
theorem d_Ref_goAw_6 : decode (jm_cod M_Ref_goAw) 6 = .ok (.iload 5, 2) := dt_Ref_goAw 4
theorem d_Ref_goAw_8 : decode (jm_cod M_Ref_goAw) 8 = .ok (.aload_n 0, 1) := dt_Ref_goAw 5
theorem d_Ref_goAw_9 : decode (jm_cod M_Ref_goAw) 9 = .ok (.getfield 247, 3) := dt_Ref_goAw 6
theorem d_Ref_goAw_12 : decode (jm_cod M_Ref_goAw) 12 = .ok (.iload_n 1, 1) := dt_Ref_goAw 7
theorem d_Ref_goAw_13 : decode (jm_cod M_Ref_goAw) 13 = .ok (.iaload, 1) := dt_Ref_goAw 8
theorem d_Ref_goAw_14 : decode (jm_cod M_Ref_goAw) 14 = .ok (.if_icmp .ge 43, 3) := dt_Ref_goAw 9
theorem d_Ref_goAw_17 : decode (jm_cod M_Ref_goAw) 17 = .ok (.iload 4, 2) := dt_Ref_goAw 10
theorem d_Ref_goAw_19 : decode (jm_cod M_Ref_goAw) 19 = .ok (.iconst (-1), 1) := dt_Ref_goAw 11
theorem d_Ref_goAw_20 : decode (jm_cod M_Ref_goAw) 20 = .ok (.if_icmp .ne 37, 3) := dt_Ref_goAw 12
theorem d_Ref_goAw_23 : decode (jm_cod M_Ref_goAw) 23 = .ok (.aload_n 0, 1) := dt_Ref_goAw 13
theorem d_Ref_goAw_24 : decode (jm_cod M_Ref_goAw) 24 = .ok (.getfield 253, 3) := dt_Ref_goAw 14
theorem d_Ref_goAw_27 : decode (jm_cod M_Ref_goAw) 27 = .ok (.bipush 16, 2) := dt_Ref_goAw 15
theorem d_Ref_goAw_29 : decode (jm_cod M_Ref_goAw) 29 = .ok (.iload_n 1, 1) := dt_Ref_goAw 16
theorem d_Ref_goAw_30 : decode (jm_cod M_Ref_goAw) 30 = .ok (.imul, 1) := dt_Ref_goAw 17
theorem d_Ref_goAw_31 : decode (jm_cod M_Ref_goAw) 31 = .ok (.iload 5, 2) := dt_Ref_goAw 18
theorem d_Ref_goAw_33 : decode (jm_cod M_Ref_goAw) 33 = .ok (.iadd, 1) := dt_Ref_goAw 19
theorem d_Ref_goAw_34 : decode (jm_cod M_Ref_goAw) 34 = .ok (.baload, 1) := dt_Ref_goAw 20
theorem d_Ref_goAw_35 : decode (jm_cod M_Ref_goAw) 35 = .ok (.ifCond .eq 7, 3) := dt_Ref_goAw 21
theorem d_Ref_goAw_38 : decode (jm_cod M_Ref_goAw) 38 = .ok (.iconst (-1), 1) := dt_Ref_goAw 22
theorem d_Ref_goAw_39 : decode (jm_cod M_Ref_goAw) 39 = .ok (.goto 10, 3) := dt_Ref_goAw 23
theorem d_Ref_goAw_42 : decode (jm_cod M_Ref_goAw) 42 = .ok (.bipush 16, 2) := dt_Ref_goAw 24
theorem d_Ref_goAw_44 : decode (jm_cod M_Ref_goAw) 44 = .ok (.iload_n 1, 1) := dt_Ref_goAw 25
theorem d_Ref_goAw_45 : decode (jm_cod M_Ref_goAw) 45 = .ok (.imul, 1) := dt_Ref_goAw 26
theorem d_Ref_goAw_46 : decode (jm_cod M_Ref_goAw) 46 = .ok (.iload 5, 2) := dt_Ref_goAw 27
theorem d_Ref_goAw_48 : decode (jm_cod M_Ref_goAw) 48 = .ok (.iadd, 1) := dt_Ref_goAw 28
theorem d_Ref_goAw_49 : decode (jm_cod M_Ref_goAw) 49 = .ok (.istore 4, 2) := dt_Ref_goAw 29
theorem d_Ref_goAw_51 : decode (jm_cod M_Ref_goAw) 51 = .ok (.iinc 5 1, 3) := dt_Ref_goAw 30
theorem d_Ref_goAw_54 : decode (jm_cod M_Ref_goAw) 54 = .ok (.goto (-48), 3) := dt_Ref_goAw 31
theorem d_Ref_goAw_57 : decode (jm_cod M_Ref_goAw) 57 = .ok (.iload 4, 2) := dt_Ref_goAw 32
theorem d_Ref_goAw_59 : decode (jm_cod M_Ref_goAw) 59 = .ok (.iconst (-1), 1) := dt_Ref_goAw 33
theorem d_Ref_goAw_60 : decode (jm_cod M_Ref_goAw) 60 = .ok (.if_icmp .ne 12, 3) := dt_Ref_goAw 34
theorem d_Ref_goAw_63 : decode (jm_cod M_Ref_goAw) 63 = .ok (.aload_n 0, 1) := dt_Ref_goAw 35
theorem d_Ref_goAw_64 : decode (jm_cod M_Ref_goAw) 64 = .ok (.iload_n 1, 1) := dt_Ref_goAw 36
theorem d_Ref_goAw_65 : decode (jm_cod M_Ref_goAw) 65 = .ok (.iconst 0, 1) := dt_Ref_goAw 37
theorem d_Ref_goAw_66 : decode (jm_cod M_Ref_goAw) 66 = .ok (.invokevirtual 434, 3) := dt_Ref_goAw 38
theorem d_Ref_goAw_69 : decode (jm_cod M_Ref_goAw) 69 = .ok (.goto 5, 3) := dt_Ref_goAw 39
theorem d_Ref_goAw_72 : decode (jm_cod M_Ref_goAw) 72 = .ok (.iload 4, 2) := dt_Ref_goAw 40
theorem d_Ref_goAw_74 : decode (jm_cod M_Ref_goAw) 74 = .ok (.istore 4, 2) := dt_Ref_goAw 41
theorem d_Ref_goAw_76 : decode (jm_cod M_Ref_goAw) 76 = .ok (.iload 4, 2) := dt_Ref_goAw 42
theorem d_Ref_goAw_78 : decode (jm_cod M_Ref_goAw) 78 = .ok (.iconst (-1), 1) := dt_Ref_goAw 43
theorem d_Ref_goAw_79 : decode (jm_cod M_Ref_goAw) 79 = .ok (.if_icmp .ne 4, 3) := dt_Ref_goAw 44
theorem d_Ref_goAw_82 : decode (jm_cod M_Ref_goAw) 82 = .ok (.return_, 1) := dt_Ref_goAw 45
theorem d_Ref_goAw_83 : decode (jm_cod M_Ref_goAw) 83 = .ok (.aload_n 0, 1) := dt_Ref_goAw 46
theorem d_Ref_goAw_84 : decode (jm_cod M_Ref_goAw) 84 = .ok (.getfield 253, 3) := dt_Ref_goAw 47
theorem d_Ref_goAw_87 : decode (jm_cod M_Ref_goAw) 87 = .ok (.iload 4, 2) := dt_Ref_goAw 48
theorem d_Ref_goAw_89 : decode (jm_cod M_Ref_goAw) 89 = .ok (.iconst 1, 1) := dt_Ref_goAw 49
theorem d_Ref_goAw_90 : decode (jm_cod M_Ref_goAw) 90 = .ok (.bastore, 1) := dt_Ref_goAw 50
theorem d_Ref_goAw_91 : decode (jm_cod M_Ref_goAw) 91 = .ok (.aload_n 0, 1) := dt_Ref_goAw 51
theorem d_Ref_goAw_92 : decode (jm_cod M_Ref_goAw) 92 = .ok (.getfield 256, 3) := dt_Ref_goAw 52
theorem d_Ref_goAw_95 : decode (jm_cod M_Ref_goAw) 95 = .ok (.iload 4, 2) := dt_Ref_goAw 53
theorem d_Ref_goAw_97 : decode (jm_cod M_Ref_goAw) 97 = .ok (.lload_n 2, 1) := dt_Ref_goAw 54
theorem d_Ref_goAw_98 : decode (jm_cod M_Ref_goAw) 98 = .ok (.lastore, 1) := dt_Ref_goAw 55
theorem d_Ref_goAw_99 : decode (jm_cod M_Ref_goAw) 99 = .ok (.iconst 0, 1) := dt_Ref_goAw 56
theorem d_Ref_goAw_100 : decode (jm_cod M_Ref_goAw) 100 = .ok (.istore 5, 2) := dt_Ref_goAw 57
theorem d_Ref_goAw_102 : decode (jm_cod M_Ref_goAw) 102 = .ok (.iload 5, 2) := dt_Ref_goAw 58
theorem d_Ref_goAw_104 : decode (jm_cod M_Ref_goAw) 104 = .ok (.aload_n 0, 1) := dt_Ref_goAw 59
theorem d_Ref_goAw_105 : decode (jm_cod M_Ref_goAw) 105 = .ok (.getfield 259, 3) := dt_Ref_goAw 60
theorem d_Ref_goAw_108 : decode (jm_cod M_Ref_goAw) 108 = .ok (.iload 4, 2) := dt_Ref_goAw 61
theorem d_Ref_goAw_110 : decode (jm_cod M_Ref_goAw) 110 = .ok (.iaload, 1) := dt_Ref_goAw 62
theorem d_Ref_goAw_111 : decode (jm_cod M_Ref_goAw) 111 = .ok (.if_icmp .ge 28, 3) := dt_Ref_goAw 63
theorem d_Ref_goAw_114 : decode (jm_cod M_Ref_goAw) 114 = .ok (.aload_n 0, 1) := dt_Ref_goAw 64
theorem d_Ref_goAw_115 : decode (jm_cod M_Ref_goAw) 115 = .ok (.getfield 238, 3) := dt_Ref_goAw 65
theorem d_Ref_goAw_118 : decode (jm_cod M_Ref_goAw) 118 = .ok (.iload_n 1, 1) := dt_Ref_goAw 66
theorem d_Ref_goAw_119 : decode (jm_cod M_Ref_goAw) 119 = .ok (.iaload, 1) := dt_Ref_goAw 67
theorem d_Ref_goAw_120 : decode (jm_cod M_Ref_goAw) 120 = .ok (.ifCond .ne 19, 3) := dt_Ref_goAw 68
theorem d_Ref_goAw_123 : decode (jm_cod M_Ref_goAw) 123 = .ok (.aload_n 0, 1) := dt_Ref_goAw 69
theorem d_Ref_goAw_124 : decode (jm_cod M_Ref_goAw) 124 = .ok (.iload_n 1, 1) := dt_Ref_goAw 70
theorem d_Ref_goAw_125 : decode (jm_cod M_Ref_goAw) 125 = .ok (.iload 4, 2) := dt_Ref_goAw 71
theorem d_Ref_goAw_127 : decode (jm_cod M_Ref_goAw) 127 = .ok (.iload 5, 2) := dt_Ref_goAw 72
theorem d_Ref_goAw_129 : decode (jm_cod M_Ref_goAw) 129 = .ok (.iconst 0, 1) := dt_Ref_goAw 73
theorem d_Ref_goAw_130 : decode (jm_cod M_Ref_goAw) 130 = .ok (.invokevirtual 437, 3) := dt_Ref_goAw 74
theorem d_Ref_goAw_133 : decode (jm_cod M_Ref_goAw) 133 = .ok (.iinc 5 1, 3) := dt_Ref_goAw 75
theorem d_Ref_goAw_136 : decode (jm_cod M_Ref_goAw) 136 = .ok (.goto (-34), 3) := dt_Ref_goAw 76
theorem d_Ref_goAw_139 : decode (jm_cod M_Ref_goAw) 139 = .ok (.return_, 1) := dt_Ref_goAw 77
def tab_Ref_newWrite : List (Nat × Instr × Nat) := [(0, .aload_n 0, 1), (1, .getfield 247, 3), (4, .iload_n 1, 1), (5, .iaload, 1), (6, .bipush 16, 2), (8, .if_icmp .ne 13, 3), (11, .aload_n 0, 1), (12, .iload_n 1, 1), (13, .bipush 12, 2), (15, .iload_n 2, 1), (16, .invokevirtual 415, 3), (19, .iconst (-1), 1), (20, .ireturn, 1), (21, .bipush 16, 2), (23, .iload_n 1, 1), (24, .imul, 1), (25, .aload_n 0, 1), (26, .getfield 247, 3), (29, .iload_n 1, 1), (30, .iaload, 1), (31, .iadd, 1), (32, .istore_n 3, 1), (33, .aload_n 0, 1), (34, .getfield 253, 3), (37, .iload_n 3, 1), (38, .iconst 0, 1), (39, .bastore, 1), (40, .aload_n 0, 1), (41, .getfield 259, 3), (44, .iload_n 3, 1), (45, .iconst 0, 1), (46, .iastore, 1), (47, .aload_n 0, 1), (48, .getfield 262, 3), (51, .iload_n 3, 1), (52, .iconst 0, 1), (53, .bastore, 1), (54, .aload_n 0, 1), (55, .getfield 247, 3), (58, .iload_n 1, 1), (59, .dup2, 1), (60, .iaload, 1), (61, .iconst 1, 1), (62, .iadd, 1), (63, .iastore, 1), (64, .iload_n 3, 1), (65, .ireturn, 1)]
theorem dt_Ref_newWrite (i : Nat) : decode (jm_cod M_Ref_newWrite) (tab_Ref_newWrite.getD i (0, .aload_n 0, 1)).1 = .ok ((tab_Ref_newWrite.getD i (0, .aload_n 0, 1)).2.1, (tab_Ref_newWrite.getD i (0, .aload_n 0, 1)).2.2) := j_tab (by decide +kernel) i
theorem d_Ref_newWrite_0 : decode (jm_cod M_Ref_newWrite) 0 = .ok (.aload_n 0, 1) := dt_Ref_newWrite 0
theorem d_Ref_newWrite_1 : decode (jm_cod M_Ref_newWrite) 1 = .ok (.getfield 247, 3) := dt_Ref_newWrite 1
theorem d_Ref_newWrite_4 : decode (jm_cod M_Ref_newWrite) 4 = .ok (.iload_n 1, 1) := dt_Ref_newWrite 2
theorem d_Ref_newWrite_5 : decode (jm_cod M_Ref_newWrite) 5 = .ok (.iaload, 1) := dt_Ref_newWrite 3
theorem d_Ref_newWrite_6 : decode (jm_cod M_Ref_newWrite) 6 = .ok (.bipush 16, 2) := dt_Ref_newWrite 4
theorem d_Ref_newWrite_8 : decode (jm_cod M_Ref_newWrite) 8 = .ok (.if_icmp .ne 13, 3) := dt_Ref_newWrite 5
theorem d_Ref_newWrite_11 : decode (jm_cod M_Ref_newWrite) 11 = .ok (.aload_n 0, 1) := dt_Ref_newWrite 6
theorem d_Ref_newWrite_12 : decode (jm_cod M_Ref_newWrite) 12 = .ok (.iload_n 1, 1) := dt_Ref_newWrite 7
theorem d_Ref_newWrite_13 : decode (jm_cod M_Ref_newWrite) 13 = .ok (.bipush 12, 2) := dt_Ref_newWrite 8
theorem d_Ref_newWrite_15 : decode (jm_cod M_Ref_newWrite) 15 = .ok (.iload_n 2, 1) := dt_Ref_newWrite 9
theorem d_Ref_newWrite_16 : decode (jm_cod M_Ref_newWrite) 16 = .ok (.invokevirtual 415, 3) := dt_Ref_newWrite 10
theorem d_Ref_newWrite_19 : decode (jm_cod M_Ref_newWrite) 19 = .ok (.iconst (-1), 1) := dt_Ref_newWrite 11
theorem d_Ref_newWrite_20 : decode (jm_cod M_Ref_newWrite) 20 = .ok (.ireturn, 1) := dt_Ref_newWrite 12
theorem d_Ref_newWrite_21 : decode (jm_cod M_Ref_newWrite) 21 = .ok (.bipush 16, 2) := dt_Ref_newWrite 13
theorem d_Ref_newWrite_23 : decode (jm_cod M_Ref_newWrite) 23 = .ok (.iload_n 1, 1) := dt_Ref_newWrite 14
theorem d_Ref_newWrite_24 : decode (jm_cod M_Ref_newWrite) 24 = .ok (.imul, 1) := dt_Ref_newWrite 15
theorem d_Ref_newWrite_25 : decode (jm_cod M_Ref_newWrite) 25 = .ok (.aload_n 0, 1) := dt_Ref_newWrite 16
theorem d_Ref_newWrite_26 : decode (jm_cod M_Ref_newWrite) 26 = .ok (.getfield 247, 3) := dt_Ref_newWrite 17
theorem d_Ref_newWrite_29 : decode (jm_cod M_Ref_newWrite) 29 = .ok (.iload_n 1, 1) := dt_Ref_newWrite 18
theorem d_Ref_newWrite_30 : decode (jm_cod M_Ref_newWrite) 30 = .ok (.iaload, 1) := dt_Ref_newWrite 19
theorem d_Ref_newWrite_31 : decode (jm_cod M_Ref_newWrite) 31 = .ok (.iadd, 1) := dt_Ref_newWrite 20
theorem d_Ref_newWrite_32 : decode (jm_cod M_Ref_newWrite) 32 = .ok (.istore_n 3, 1) := dt_Ref_newWrite 21
theorem d_Ref_newWrite_33 : decode (jm_cod M_Ref_newWrite) 33 = .ok (.aload_n 0, 1) := dt_Ref_newWrite 22
theorem d_Ref_newWrite_34 : decode (jm_cod M_Ref_newWrite) 34 = .ok (.getfield 253, 3) := dt_Ref_newWrite 23
theorem d_Ref_newWrite_37 : decode (jm_cod M_Ref_newWrite) 37 = .ok (.iload_n 3, 1) := dt_Ref_newWrite 24
theorem d_Ref_newWrite_38 : decode (jm_cod M_Ref_newWrite) 38 = .ok (.iconst 0, 1) := dt_Ref_newWrite 25
theorem d_Ref_newWrite_39 : decode (jm_cod M_Ref_newWrite) 39 = .ok (.bastore, 1) := dt_Ref_newWrite 26
theorem d_Ref_newWrite_40 : decode (jm_cod M_Ref_newWrite) 40 = .ok (.aload_n 0, 1) := dt_Ref_newWrite 27
theorem d_Ref_newWrite_41 : decode (jm_cod M_Ref_newWrite) 41 = .ok (.getfield 259, 3) := dt_Ref_newWrite 28
theorem d_Ref_newWrite_44 : decode (jm_cod M_Ref_newWrite) 44 = .ok (.iload_n 3, 1) := dt_Ref_newWrite 29
theorem d_Ref_newWrite_45 : decode (jm_cod M_Ref_newWrite) 45 = .ok (.iconst 0, 1) := dt_Ref_newWrite 30
theorem d_Ref_newWrite_46 : decode (jm_cod M_Ref_newWrite) 46 = .ok (.iastore, 1) := dt_Ref_newWrite 31
theorem d_Ref_newWrite_47 : decode (jm_cod M_Ref_newWrite) 47 = .ok (.aload_n 0, 1) := dt_Ref_newWrite 32
theorem d_Ref_newWrite_48 : decode (jm_cod M_Ref_newWrite) 48 = .ok (.getfield 262, 3) := dt_Ref_newWrite 33
theorem d_Ref_newWrite_51 : decode (jm_cod M_Ref_newWrite) 51 = .ok (.iload_n 3, 1) := dt_Ref_newWrite 34
theorem d_Ref_newWrite_52 : decode (jm_cod M_Ref_newWrite) 52 = .ok (.iconst 0, 1) := dt_Ref_newWrite 35
theorem d_Ref_newWrite_53 : decode (jm_cod M_Ref_newWrite) 53 = .ok (.bastore, 1) := dt_Ref_newWrite 36
theorem d_Ref_newWrite_54 : decode (jm_cod M_Ref_newWrite) 54 = .ok (.aload_n 0, 1) := dt_Ref_newWrite 37
theorem d_Ref_newWrite_55 : decode (jm_cod M_Ref_newWrite) 55 = .ok (.getfield 247, 3) := dt_Ref_newWrite 38
theorem d_Ref_newWrite_58 : decode (jm_cod M_Ref_newWrite) 58 = .ok (.iload_n 1, 1) := dt_Ref_newWrite 39
theorem d_Ref_newWrite_59 : decode (jm_cod M_Ref_newWrite) 59 = .ok (.dup2, 1) := dt_Ref_newWrite 40
theorem d_Ref_newWrite_60 : decode (jm_cod M_Ref_newWrite) 60 = .ok (.iaload, 1) := dt_Ref_newWrite 41
theorem d_Ref_newWrite_61 : decode (jm_cod M_Ref_newWrite) 61 = .ok (.iconst 1, 1) := dt_Ref_newWrite 42
theorem d_Ref_newWrite_62 : decode (jm_cod M_Ref_newWrite) 62 = .ok (.iadd, 1) := dt_Ref_newWrite 43
theorem d_Ref_newWrite_63 : decode (jm_cod M_Ref_newWrite) 63 = .ok (.iastore, 1) := dt_Ref_newWrite 44
theorem d_Ref_newWrite_64 : decode (jm_cod M_Ref_newWrite) 64 = .ok (.iload_n 3, 1) := dt_Ref_newWrite 45
theorem d_Ref_newWrite_65 : decode (jm_cod M_Ref_newWrite) 65 = .ok (.ireturn, 1) := dt_Ref_newWrite 46
def tab_Ref_checkBeat : List (Nat × Instr × Nat) := [(0, .aload_n 0, 1), (1, .getfield 256, 3), (4, .iload_n 2, 1), (5, .laload, 1), (6, .invokestatic 321, 3), (9, .istore 5, 2), (11, .aload_n 0, 1), (12, .getfield 265, 3), (15, .bipush 16, 2), (17, .iload_n 2, 1), (18, .imul, 1), (19, .iload_n 3, 1), (20, .iadd, 1), (21, .iaload, 1), (22, .sipush 256, 3), (25, .iand, 1), (26, .ifCond .eq 7, 3), (29, .iconst 1, 1), (30, .goto 4, 3), (33, .iconst 0, 1), (34, .istore 6, 2), (36, .iload_n 3, 1), (37, .iload 5, 2), (39, .iconst 1, 1), (40, .isub, 1), (41, .if_icmp .ne 11, 3), (44, .iload 6, 2), (46, .ifCond .ne 27, 3), (49, .goto 14, 3), (52, .iload 6, 2), (54, .ifCond .ne 9, 3), (57, .iload_n 3, 1), (58, .iload 5, 2), (60, .if_icmp .lt 13, 3), (63, .aload_n 0, 1), (64, .iload_n 1, 1), (65, .bipush 7, 2), (67, .iload 4, 2), (69, .invokevirtual 415, 3), (72, .return_, 1), (73, .aload_n 0, 1), (74, .getfield 256, 3), (77, .iload_n 2, 1), (78, .laload, 1), (79, .iload_n 3, 1), (80, .invokestatic 366, 3), (83, .aload_n 0, 1), (84, .getfield 256, 3), (87, .iload_n 2, 1), (88, .laload, 1), (89, .invokestatic 318, 3), (92, .invokestatic 370, 3), (95, .istore 7, 2), (97, .aload_n 0, 1), (98, .getfield 265, 3), (101, .bipush 16, 2), (103, .iload_n 2, 1), (104, .imul, 1), (105, .iload_n 3, 1), (106, .iadd, 1), (107, .iaload, 1), (108, .sipush 255, 3), (111, .iand, 1), (112, .iload 7, 2), (114, .iconst (-1), 1), (115, .ixor, 1), (116, .iand, 1), (117, .ifCond .eq 12, 3), (120, .aload_n 0, 1), (121, .iload_n 1, 1), (122, .bipush 8, 2), (124, .iload 4, 2), (126, .invokevirtual 415, 3), (129, .return_, 1)]
theorem dt_Ref_checkBeat (i : Nat) : decode (jm_cod M_Ref_checkBeat) (tab_Ref_checkBeat.getD i (0, .aload_n 0, 1)).1 = .ok ((tab_Ref_checkBeat.getD i (0, .aload_n 0, 1)).2.1, (tab_Ref_checkBeat.getD i (0, .aload_n 0, 1)).2.2) := j_tab (by decide +kernel) i
theorem d_Ref_checkBeat_0 : decode (jm_cod M_Ref_checkBeat) 0 = .ok (.aload_n 0, 1) := dt_Ref_checkBeat 0
theorem d_Ref_checkBeat_1 : decode (jm_cod M_Ref_checkBeat) 1 = .ok (.getfield 256, 3) := dt_Ref_checkBeat 1
theorem d_Ref_checkBeat_4 : decode (jm_cod M_Ref_checkBeat) 4 = .ok (.iload_n 2, 1) := dt_Ref_checkBeat 2
theorem d_Ref_checkBeat_5 : decode (jm_cod M_Ref_checkBeat) 5 = .ok (.laload, 1) := dt_Ref_checkBeat 3
theorem d_Ref_checkBeat_6 : decode (jm_cod M_Ref_checkBeat) 6 = .ok (.invokestatic 321, 3) := dt_Ref_checkBeat 4
theorem d_Ref_checkBeat_9 : decode (jm_cod M_Ref_checkBeat) 9 = .ok (.istore 5, 2) := dt_Ref_checkBeat 5
theorem d_Ref_checkBeat_11 : decode (jm_cod M_Ref_checkBeat) 11 = .ok (.aload_n 0, 1) := dt_Ref_checkBeat 6
theorem d_Ref_checkBeat_12 : decode (jm_cod M_Ref_checkBeat) 12 = .ok (.getfield 265, 3) := dt_Ref_checkBeat 7
theorem d_Ref_checkBeat_15 : decode (jm_cod M_Ref_checkBeat) 15 = .ok (.bipush 16, 2) := dt_Ref_checkBeat 8
theorem d_Ref_checkBeat_17 : decode (jm_cod M_Ref_checkBeat) 17 = .ok (.iload_n 2, 1) := dt_Ref_checkBeat 9
theorem d_Ref_checkBeat_18 : decode (jm_cod M_Ref_checkBeat) 18 = .ok (.imul, 1) := dt_Ref_checkBeat 10
theorem d_Ref_checkBeat_19 : decode (jm_cod M_Ref_checkBeat) 19 = .ok (.iload_n 3, 1) := dt_Ref_checkBeat 11
theorem d_Ref_checkBeat_20 : decode (jm_cod M_Ref_checkBeat) 20 = .ok (.iadd, 1) := dt_Ref_checkBeat 12
theorem d_Ref_checkBeat_21 : decode (jm_cod M_Ref_checkBeat) 21 = .ok (.iaload, 1) := dt_Ref_checkBeat 13
theorem d_Ref_checkBeat_22 : decode (jm_cod M_Ref_checkBeat) 22 = .ok (.sipush 256, 3) := dt_Ref_checkBeat 14
theorem d_Ref_checkBeat_25 : decode (jm_cod M_Ref_checkBeat) 25 = .ok (.iand, 1) := dt_Ref_checkBeat 15
theorem d_Ref_checkBeat_26 : decode (jm_cod M_Ref_checkBeat) 26 = .ok (.ifCond .eq 7, 3) := dt_Ref_checkBeat 16
theorem d_Ref_checkBeat_29 : decode (jm_cod M_Ref_checkBeat) 29 = .ok (.iconst 1, 1) := dt_Ref_checkBeat 17
theorem d_Ref_checkBeat_30 : decode (jm_cod M_Ref_checkBeat) 30 = .ok (.goto 4, 3) := dt_Ref_checkBeat 18
theorem d_Ref_checkBeat_33 : decode (jm_cod M_Ref_checkBeat) 33 = .ok (.iconst 0, 1) := dt_Ref_checkBeat 19
theorem d_Ref_checkBeat_34 : decode (jm_cod M_Ref_checkBeat) 34 = .ok (.istore 6, 2) := dt_Ref_checkBeat 20
theorem d_Ref_checkBeat_36 : decode (jm_cod M_Ref_checkBeat) 36 = .ok (.iload_n 3, 1) := dt_Ref_checkBeat 21
theorem d_Ref_checkBeat_37 : decode (jm_cod M_Ref_checkBeat) 37 = .ok (.iload 5, 2) := dt_Ref_checkBeat 22
theorem d_Ref_checkBeat_39 : decode (jm_cod M_Ref_checkBeat) 39 = .ok (.iconst 1, 1) := dt_Ref_checkBeat 23
theorem d_Ref_checkBeat_40 : decode (jm_cod M_Ref_checkBeat) 40 = .ok (.isub, 1) := dt_Ref_checkBeat 24
theorem d_Ref_checkBeat_41 : decode (jm_cod M_Ref_checkBeat) 41 = .ok (.if_icmp .ne 11, 3) := dt_Ref_checkBeat 25
theorem d_Ref_checkBeat_44 : decode (jm_cod M_Ref_checkBeat) 44 = .ok (.iload 6, 2) := dt_Ref_checkBeat 26
theorem d_Ref_checkBeat_46 : decode (jm_cod M_Ref_checkBeat) 46 = .ok (.ifCond .ne 27, 3) := dt_Ref_checkBeat 27
theorem d_Ref_checkBeat_49 : decode (jm_cod M_Ref_checkBeat) 49 = .ok (.goto 14, 3) := dt_Ref_checkBeat 28
theorem d_Ref_checkBeat_52 : decode (jm_cod M_Ref_checkBeat) 52 = .ok (.iload 6, 2) := dt_Ref_checkBeat 29
theorem d_Ref_checkBeat_54 : decode (jm_cod M_Ref_checkBeat) 54 = .ok (.ifCond .ne 9, 3) := dt_Ref_checkBeat 30
theorem d_Ref_checkBeat_57 : decode (jm_cod M_Ref_checkBeat) 57 = .ok (.iload_n 3, 1) := dt_Ref_checkBeat 31
theorem d_Ref_checkBeat_58 : decode (jm_cod M_Ref_checkBeat) 58 = .ok (.iload 5, 2) := dt_Ref_checkBeat 32
theorem d_Ref_checkBeat_60 : decode (jm_cod M_Ref_checkBeat) 60 = .ok (.if_icmp .lt 13, 3) := dt_Ref_checkBeat 33
theorem d_Ref_checkBeat_63 : decode (jm_cod M_Ref_checkBeat) 63 = .ok (.aload_n 0, 1) := dt_Ref_checkBeat 34
theorem d_Ref_checkBeat_64 : decode (jm_cod M_Ref_checkBeat) 64 = .ok (.iload_n 1, 1) := dt_Ref_checkBeat 35
theorem d_Ref_checkBeat_65 : decode (jm_cod M_Ref_checkBeat) 65 = .ok (.bipush 7, 2) := dt_Ref_checkBeat 36
theorem d_Ref_checkBeat_67 : decode (jm_cod M_Ref_checkBeat) 67 = .ok (.iload 4, 2) := dt_Ref_checkBeat 37
theorem d_Ref_checkBeat_69 : decode (jm_cod M_Ref_checkBeat) 69 = .ok (.invokevirtual 415, 3) := dt_Ref_checkBeat 38
theorem d_Ref_checkBeat_72 : decode (jm_cod M_Ref_checkBeat) 72 = .ok (.return_, 1) := dt_Ref_checkBeat 39
theorem d_Ref_checkBeat_73 : decode (jm_cod M_Ref_checkBeat) 73 = .ok (.aload_n 0, 1) := dt_Ref_checkBeat 40
theorem d_Ref_checkBeat_74 : decode (jm_cod M_Ref_checkBeat) 74 = .ok (.getfield 256, 3) := dt_Ref_checkBeat 41
theorem d_Ref_checkBeat_77 : decode (jm_cod M_Ref_checkBeat) 77 = .ok (.iload_n 2, 1) := dt_Ref_checkBeat 42
theorem d_Ref_checkBeat_78 : decode (jm_cod M_Ref_checkBeat) 78 = .ok (.laload, 1) := dt_Ref_checkBeat 43
theorem d_Ref_checkBeat_79 : decode (jm_cod M_Ref_checkBeat) 79 = .ok (.iload_n 3, 1) := dt_Ref_checkBeat 44
theorem d_Ref_checkBeat_80 : decode (jm_cod M_Ref_checkBeat) 80 = .ok (.invokestatic 366, 3) := dt_Ref_checkBeat 45
theorem d_Ref_checkBeat_83 : decode (jm_cod M_Ref_checkBeat) 83 = .ok (.aload_n 0, 1) := dt_Ref_checkBeat 46
theorem d_Ref_checkBeat_84 : decode (jm_cod M_Ref_checkBeat) 84 = .ok (.getfield 256, 3) := dt_Ref_checkBeat 47
theorem d_Ref_checkBeat_87 : decode (jm_cod M_Ref_checkBeat) 87 = .ok (.iload_n 2, 1) := dt_Ref_checkBeat 48
theorem d_Ref_checkBeat_88 : decode (jm_cod M_Ref_checkBeat) 88 = .ok (.laload, 1) := dt_Ref_checkBeat 49
theorem d_Ref_checkBeat_89 : decode (jm_cod M_Ref_checkBeat) 89 = .ok (.invokestatic 318, 3) := dt_Ref_checkBeat 50
theorem d_Ref_checkBeat_92 : decode (jm_cod M_Ref_checkBeat) 92 = .ok (.invokestatic 370, 3) := dt_Ref_checkBeat 51
theorem d_Ref_checkBeat_95 : decode (jm_cod M_Ref_checkBeat) 95 = .ok (.istore 7, 2) := dt_Ref_checkBeat 52
theorem d_Ref_checkBeat_97 : decode (jm_cod M_Ref_checkBeat) 97 = .ok (.aload_n 0, 1) := dt_Ref_checkBeat 53
theorem d_Ref_checkBeat_98 : decode (jm_cod M_Ref_checkBeat) 98 = .ok (.getfield 265, 3) := dt_Ref_checkBeat 54
theorem d_Ref_checkBeat_101 : decode (jm_cod M_Ref_checkBeat) 101 = .ok (.bipush 16, 2) := dt_Ref_checkBeat 55
theorem d_Ref_checkBeat_103 : decode (jm_cod M_Ref_checkBeat) 103 = .ok (.iload_n 2, 1) := dt_Ref_checkBeat 56
theorem d_Ref_checkBeat_104 : decode (jm_cod M_Ref_checkBeat) 104 = .ok (.imul, 1) := dt_Ref_checkBeat 57
theorem d_Ref_checkBeat_105 : decode (jm_cod M_Ref_checkBeat) 105 = .ok (.iload_n 3, 1) := dt_Ref_checkBeat 58
theorem d_Ref_checkBeat_106 : decode (jm_cod M_Ref_checkBeat) 106 = .ok (.iadd, 1) := dt_Ref_checkBeat 59
theorem d_Ref_checkBeat_107 : decode (jm_cod M_Ref_checkBeat) 107 = .ok (.iaload, 1) := dt_Ref_checkBeat 60
theorem d_Ref_checkBeat_108 : decode (jm_cod M_Ref_checkBeat) 108 = .ok (.sipush 255, 3) := dt_Ref_checkBeat 61
theorem d_Ref_checkBeat_111 : decode (jm_cod M_Ref_checkBeat) 111 = .ok (.iand, 1) := dt_Ref_checkBeat 62
theorem d_Ref_checkBeat_112 : decode (jm_cod M_Ref_checkBeat) 112 = .ok (.iload 7, 2) := dt_Ref_checkBeat 63
theorem d_Ref_checkBeat_114 : decode (jm_cod M_Ref_checkBeat) 114 = .ok (.iconst (-1), 1) := dt_Ref_checkBeat 64
theorem d_Ref_checkBeat_115 : decode (jm_cod M_Ref_checkBeat) 115 = .ok (.ixor, 1) := dt_Ref_checkBeat 65
theorem d_Ref_checkBeat_116 : decode (jm_cod M_Ref_checkBeat) 116 = .ok (.iand, 1) := dt_Ref_checkBeat 66
theorem d_Ref_checkBeat_117 : decode (jm_cod M_Ref_checkBeat) 117 = .ok (.ifCond .eq 12, 3) := dt_Ref_checkBeat 67
theorem d_Ref_checkBeat_120 : decode (jm_cod M_Ref_checkBeat) 120 = .ok (.aload_n 0, 1) := dt_Ref_checkBeat 68
theorem d_Ref_checkBeat_121 : decode (jm_cod M_Ref_checkBeat) 121 = .ok (.iload_n 1, 1) := dt_Ref_checkBeat 69
theorem d_Ref_checkBeat_122 : decode (jm_cod M_Ref_checkBeat) 122 = .ok (.bipush 8, 2) := dt_Ref_checkBeat 70
theorem d_Ref_checkBeat_124 : decode (jm_cod M_Ref_checkBeat) 124 = .ok (.iload 4, 2) := dt_Ref_checkBeat 71
theorem d_Ref_checkBeat_126 : decode (jm_cod M_Ref_checkBeat) 126 = .ok (.invokevirtual 415, 3) := dt_Ref_checkBeat 72
theorem d_Ref_checkBeat_129 : decode (jm_cod M_Ref_checkBeat) 129 = .ok (.return_, 1) := dt_Ref_checkBeat 73
def tab_Ref_goW : List (Nat × Instr × Nat) := [(0, .iconst (-1), 1), (1, .istore_n 3, 1), (2, .iconst 0, 1), (3, .istore 4, 2), (5, .iload 4, 2), (7, .aload_n 0, 1), (8, .getfield 247, 3), (11, .iload_n 1, 1), (12, .iaload, 1), (13, .if_icmp .ge 41, 3), (16, .iload_n 3, 1), (17, .iconst (-1), 1), (18, .if_icmp .ne 36, 3), (21, .aload_n 0, 1), (22, .getfield 262, 3), (25, .bipush 16, 2), (27, .iload_n 1, 1), (28, .imul, 1), (29, .iload 4, 2), (31, .iadd, 1), (32, .baload, 1), (33, .ifCond .eq 7, 3), (36, .iconst (-1), 1), (37, .goto 10, 3), (40, .bipush 16, 2), (42, .iload_n 1, 1), (43, .imul, 1), (44, .iload 4, 2), (46, .iadd, 1), (47, .istore_n 3, 1), (48, .iinc 4 1, 3), (51, .goto (-46), 3), (54, .iload_n 3, 1), (55, .iconst (-1), 1), (56, .if_icmp .ne 12, 3), (59, .aload_n 0, 1), (60, .iload_n 1, 1), (61, .iconst 1, 1), (62, .invokevirtual 434, 3), (65, .goto 4, 3), (68, .iload_n 3, 1), (69, .istore_n 3, 1), (70, .iload_n 3, 1), (71, .iconst (-1), 1), (72, .if_icmp .ne 4, 3), (75, .return_, 1), (76, .aload_n 0, 1), (77, .getfield 259, 3), (80, .iload_n 3, 1), (81, .iaload, 1), (82, .bipush 16, 2), (84, .if_icmp .ne 12, 3), (87, .aload_n 0, 1), (88, .iload_n 1, 1), (89, .bipush 7, 2), (91, .iconst 1, 1), (92, .invokevirtual 415, 3), (95, .return_, 1), (96, .aload_n 0, 1), (97, .getfield 265, 3), (100, .bipush 16, 2), (102, .iload_n 3, 1), (103, .imul, 1), (104, .aload_n 0, 1), (105, .getfield 259, 3), (108, .iload_n 3, 1), (109, .iaload, 1), (110, .iadd, 1), (111, .iload_n 2, 1), (112, .iastore, 1), (113, .aload_n 0, 1), (114, .getfield 259, 3), (117, .iload_n 3, 1), (118, .dup2, 1), (119, .iaload, 1), (120, .iconst 1, 1), (121, .iadd, 1), (122, .iastore, 1), (123, .aload_n 0, 1), (124, .getfield 262, 3), (127, .iload_n 3, 1), (128, .iload_n 2, 1), (129, .sipush 256, 3), (132, .iand, 1), (133, .ifCond .eq 7, 3), (136, .iconst 1, 1), (137, .goto 4, 3), (140, .iconst 0, 1), (141, .bastore, 1), (142, .aload_n 0, 1), (143, .getfield 253, 3), (146, .iload_n 3, 1), (147, .baload, 1), (148, .ifCond .eq 18, 3), (151, .aload_n 0, 1), (152, .iload_n 1, 1), (153, .iload_n 3, 1), (154, .aload_n 0, 1), (155, .getfield 259, 3), (158, .iload_n 3, 1), (159, .iaload, 1), (160, .iconst 1, 1), (161, .isub, 1), (162, .iconst 1, 1), (163, .invokevirtual 437, 3), (166, .return_, 1)]
theorem dt_Ref_goW (i : Nat) : decode (jm_cod M_Ref_goW) (tab_Ref_goW.getD i (0, .iconst (-1), 1)).1 = .ok ((tab_Ref_goW.getD i (0, .iconst (-1), 1)).2.1, (tab_Ref_goW.getD i (0, .iconst (-1), 1)).2.2) := j_tab (by decide +kernel) i
theorem d_Ref_goW_0 : decode (jm_cod M_Ref_goW) 0 = .ok (.iconst (-1), 1) := dt_Ref_goW 0
theorem d_Ref_goW_1 : decode (jm_cod M_Ref_goW) 1 = .ok (.istore_n 3, 1) := dt_Ref_goW 1
theorem d_Ref_goW_2 : decode (jm_cod M_Ref_goW) 2 = .ok (.iconst 0, 1) := dt_Ref_goW 2
theorem d_Ref_goW_3 : decode (jm_cod M_Ref_goW) 3 = .ok (.istore 4, 2) := dt_Ref_goW 3
theorem d_Ref_goW_5 : decode (jm_cod M_Ref_goW) 5 = .ok (.iload 4, 2) := dt_Ref_goW 4
theorem d_Ref_goW_7 : decode (jm_cod M_Ref_goW) 7 = .ok (.aload_n 0, 1) := dt_Ref_goW 5
theorem d_Ref_goW_8 : decode (jm_cod M_Ref_goW) 8 = .ok (.getfield 247, 3) := dt_Ref_goW 6
theorem d_Ref_goW_11 : decode (jm_cod M_Ref_goW) 11 = .ok (.iload_n 1, 1) := dt_Ref_goW 7
theorem d_Ref_goW_12 : decode (jm_cod M_Ref_goW) 12 = .ok (.iaload, 1) := dt_Ref_goW 8
theorem d_Ref_goW_13 : decode (jm_cod M_Ref_goW) 13 = .ok (.if_icmp .ge 41, 3) := dt_Ref_goW 9
theorem d_Ref_goW_16 : decode (jm_cod M_Ref_goW) 16 = .ok (.iload_n 3, 1) := dt_Ref_goW 10
theorem d_Ref_goW_17 : decode (jm_cod M_Ref_goW) 17 = .ok (.iconst (-1), 1) := dt_Ref_goW 11
theorem d_Ref_goW_18 : decode (jm_cod M_Ref_goW) 18 = .ok (.if_icmp .ne 36, 3) := dt_Ref_goW 12
theorem d_Ref_goW_21 : decode (jm_cod M_Ref_goW) 21 = .ok (.aload_n 0, 1) := dt_Ref_goW 13
theorem d_Ref_goW_22 : decode (jm_cod M_Ref_goW) 22 = .ok (.getfield 262, 3) := dt_Ref_goW 14
theorem d_Ref_goW_25 : decode (jm_cod M_Ref_goW) 25 = .ok (.bipush 16, 2) := dt_Ref_goW 15
theorem d_Ref_goW_27 : decode (jm_cod M_Ref_goW) 27 = .ok (.iload_n 1, 1) := dt_Ref_goW 16
theorem d_Ref_goW_28 : decode (jm_cod M_Ref_goW) 28 = .ok (.imul, 1) := dt_Ref_goW 17
theorem d_Ref_goW_29 : decode (jm_cod M_Ref_goW) 29 = .ok (.iload 4, 2) := dt_Ref_goW 18
theorem d_Ref_goW_31 : decode (jm_cod M_Ref_goW) 31 = .ok (.iadd, 1) := dt_Ref_goW 19
theorem d_Ref_goW_32 : decode (jm_cod M_Ref_goW) 32 = .ok (.baload, 1) := dt_Ref_goW 20
theorem d_Ref_goW_33 : decode (jm_cod M_Ref_goW) 33 = .ok (.ifCond .eq 7, 3) := dt_Ref_goW 21
theorem d_Ref_goW_36 : decode (jm_cod M_Ref_goW) 36 = .ok (.iconst (-1), 1) := dt_Ref_goW 22
theorem d_Ref_goW_37 : decode (jm_cod M_Ref_goW) 37 = .ok (.goto 10, 3) := dt_Ref_goW 23
theorem d_Ref_goW_40 : decode (jm_cod M_Ref_goW) 40 = .ok (.bipush 16, 2) := dt_Ref_goW 24
theorem d_Ref_goW_42 : decode (jm_cod M_Ref_goW) 42 = .ok (.iload_n 1, 1) := dt_Ref_goW 25
theorem d_Ref_goW_43 : decode (jm_cod M_Ref_goW) 43 = .ok (.imul, 1) := dt_Ref_goW 26
theorem d_Ref_goW_44 : decode (jm_cod M_Ref_goW) 44 = .ok (.iload 4, 2) := dt_Ref_goW 27
theorem d_Ref_goW_46 : decode (jm_cod M_Ref_goW) 46 = .ok (.iadd, 1) := dt_Ref_goW 28
theorem d_Ref_goW_47 : decode (jm_cod M_Ref_goW) 47 = .ok (.istore_n 3, 1) := dt_Ref_goW 29
theorem d_Ref_goW_48 : decode (jm_cod M_Ref_goW) 48 = .ok (.iinc 4 1, 3) := dt_Ref_goW 30
theorem d_Ref_goW_51 : decode (jm_cod M_Ref_goW) 51 = .ok (.goto (-46), 3) := dt_Ref_goW 31
theorem d_Ref_goW_54 : decode (jm_cod M_Ref_goW) 54 = .ok (.iload_n 3, 1) := dt_Ref_goW 32
theorem d_Ref_goW_55 : decode (jm_cod M_Ref_goW) 55 = .ok (.iconst (-1), 1) := dt_Ref_goW 33
theorem d_Ref_goW_56 : decode (jm_cod M_Ref_goW) 56 = .ok (.if_icmp .ne 12, 3) := dt_Ref_goW 34
theorem d_Ref_goW_59 : decode (jm_cod M_Ref_goW) 59 = .ok (.aload_n 0, 1) := dt_Ref_goW 35
theorem d_Ref_goW_60 : decode (jm_cod M_Ref_goW) 60 = .ok (.iload_n 1, 1) := dt_Ref_goW 36
theorem d_Ref_goW_61 : decode (jm_cod M_Ref_goW) 61 = .ok (.iconst 1, 1) := dt_Ref_goW 37
theorem d_Ref_goW_62 : decode (jm_cod M_Ref_goW) 62 = .ok (.invokevirtual 434, 3) := dt_Ref_goW 38
theorem d_Ref_goW_65 : decode (jm_cod M_Ref_goW) 65 = .ok (.goto 4, 3) := dt_Ref_goW 39
theorem d_Ref_goW_68 : decode (jm_cod M_Ref_goW) 68 = .ok (.iload_n 3, 1) := dt_Ref_goW 40
theorem d_Ref_goW_69 : decode (jm_cod M_Ref_goW) 69 = .ok (.istore_n 3, 1) := dt_Ref_goW 41
theorem d_Ref_goW_70 : decode (jm_cod M_Ref_goW) 70 = .ok (.iload_n 3, 1) := dt_Ref_goW 42
theorem d_Ref_goW_71 : decode (jm_cod M_Ref_goW) 71 = .ok (.iconst (-1), 1) := dt_Ref_goW 43
theorem d_Ref_goW_72 : decode (jm_cod M_Ref_goW) 72 = .ok (.if_icmp .ne 4, 3) := dt_Ref_goW 44
theorem d_Ref_goW_75 : decode (jm_cod M_Ref_goW) 75 = .ok (.return_, 1) := dt_Ref_goW 45
theorem d_Ref_goW_76 : decode (jm_cod M_Ref_goW) 76 = .ok (.aload_n 0, 1) := dt_Ref_goW 46
theorem d_Ref_goW_77 : decode (jm_cod M_Ref_goW) 77 = .ok (.getfield 259, 3) := dt_Ref_goW 47
theorem d_Ref_goW_80 : decode (jm_cod M_Ref_goW) 80 = .ok (.iload_n 3, 1) := dt_Ref_goW 48
theorem d_Ref_goW_81 : decode (jm_cod M_Ref_goW) 81 = .ok (.iaload, 1) := dt_Ref_goW 49
theorem d_Ref_goW_82 : decode (jm_cod M_Ref_goW) 82 = .ok (.bipush 16, 2) := dt_Ref_goW 50
theorem d_Ref_goW_84 : decode (jm_cod M_Ref_goW) 84 = .ok (.if_icmp .ne 12, 3) := dt_Ref_goW 51
theorem d_Ref_goW_87 : decode (jm_cod M_Ref_goW) 87 = .ok (.aload_n 0, 1) := dt_Ref_goW 52
theorem d_Ref_goW_88 : decode (jm_cod M_Ref_goW) 88 = .ok (.iload_n 1, 1) := dt_Ref_goW 53
theorem d_Ref_goW_89 : decode (jm_cod M_Ref_goW) 89 = .ok (.bipush 7, 2) := dt_Ref_goW 54
theorem d_Ref_goW_91 : decode (jm_cod M_Ref_goW) 91 = .ok (.iconst 1, 1) := dt_Ref_goW 55
theorem d_Ref_goW_92 : decode (jm_cod M_Ref_goW) 92 = .ok (.invokevirtual 415, 3) := dt_Ref_goW 56
theorem d_Ref_goW_95 : decode (jm_cod M_Ref_goW) 95 = .ok (.return_, 1) := dt_Ref_goW 57
theorem d_Ref_goW_96 : decode (jm_cod M_Ref_goW) 96 = .ok (.aload_n 0, 1) := dt_Ref_goW 58
theorem d_Ref_goW_97 : decode (jm_cod M_Ref_goW) 97 = .ok (.getfield 265, 3) := dt_Ref_goW 59
theorem d_Ref_goW_100 : decode (jm_cod M_Ref_goW) 100 = .ok (.bipush 16, 2) := dt_Ref_goW 60
theorem d_Ref_goW_102 : decode (jm_cod M_Ref_goW) 102 = .ok (.iload_n 3, 1) := dt_Ref_goW 61
theorem d_Ref_goW_103 : decode (jm_cod M_Ref_goW) 103 = .ok (.imul, 1) := dt_Ref_goW 62
theorem d_Ref_goW_104 : decode (jm_cod M_Ref_goW) 104 = .ok (.aload_n 0, 1) := dt_Ref_goW 63
theorem d_Ref_goW_105 : decode (jm_cod M_Ref_goW) 105 = .ok (.getfield 259, 3) := dt_Ref_goW 64
theorem d_Ref_goW_108 : decode (jm_cod M_Ref_goW) 108 = .ok (.iload_n 3, 1) := dt_Ref_goW 65
theorem d_Ref_goW_109 : decode (jm_cod M_Ref_goW) 109 = .ok (.iaload, 1) := dt_Ref_goW 66
theorem d_Ref_goW_110 : decode (jm_cod M_Ref_goW) 110 = .ok (.iadd, 1) := dt_Ref_goW 67
theorem d_Ref_goW_111 : decode (jm_cod M_Ref_goW) 111 = .ok (.iload_n 2, 1) := dt_Ref_goW 68
theorem d_Ref_goW_112 : decode (jm_cod M_Ref_goW) 112 = .ok (.iastore, 1) := dt_Ref_goW 69
theorem d_Ref_goW_113 : decode (jm_cod M_Ref_goW) 113 = .ok (.aload_n 0, 1) := dt_Ref_goW 70
theorem d_Ref_goW_114 : decode (jm_cod M_Ref_goW) 114 = .ok (.getfield 259, 3) := dt_Ref_goW 71
theorem d_Ref_goW_117 : decode (jm_cod M_Ref_goW) 117 = .ok (.iload_n 3, 1) := dt_Ref_goW 72
theorem d_Ref_goW_118 : decode (jm_cod M_Ref_goW) 118 = .ok (.dup2, 1) := dt_Ref_goW 73
theorem d_Ref_goW_119 : decode (jm_cod M_Ref_goW) 119 = .ok (.iaload, 1) := dt_Ref_goW 74
theorem d_Ref_goW_120 : decode (jm_cod M_Ref_goW) 120 = .ok (.iconst 1, 1) := dt_Ref_goW 75
theorem d_Ref_goW_121 : decode (jm_cod M_Ref_goW) 121 = .ok (.iadd, 1) := dt_Ref_goW 76
theorem d_Ref_goW_122 : decode (jm_cod M_Ref_goW) 122 = .ok (.iastore, 1) := dt_Ref_goW 77
theorem d_Ref_goW_123 : decode (jm_cod M_Ref_goW) 123 = .ok (.aload_n 0, 1) := dt_Ref_goW 78
theorem d_Ref_goW_124 : decode (jm_cod M_Ref_goW) 124 = .ok (.getfield 262, 3) := dt_Ref_goW 79
theorem d_Ref_goW_127 : decode (jm_cod M_Ref_goW) 127 = .ok (.iload_n 3, 1) := dt_Ref_goW 80
theorem d_Ref_goW_128 : decode (jm_cod M_Ref_goW) 128 = .ok (.iload_n 2, 1) := dt_Ref_goW 81
theorem d_Ref_goW_129 : decode (jm_cod M_Ref_goW) 129 = .ok (.sipush 256, 3) := dt_Ref_goW 82
theorem d_Ref_goW_132 : decode (jm_cod M_Ref_goW) 132 = .ok (.iand, 1) := dt_Ref_goW 83
theorem d_Ref_goW_133 : decode (jm_cod M_Ref_goW) 133 = .ok (.ifCond .eq 7, 3) := dt_Ref_goW 84
theorem d_Ref_goW_136 : decode (jm_cod M_Ref_goW) 136 = .ok (.iconst 1, 1) := dt_Ref_goW 85
theorem d_Ref_goW_137 : decode (jm_cod M_Ref_goW) 137 = .ok (.goto 4, 3) := dt_Ref_goW 86
theorem d_Ref_goW_140 : decode (jm_cod M_Ref_goW) 140 = .ok (.iconst 0, 1) := dt_Ref_goW 87
theorem d_Ref_goW_141 : decode (jm_cod M_Ref_goW) 141 = .ok (.bastore, 1) := dt_Ref_goW 88
theorem d_Ref_goW_142 : decode (jm_cod M_Ref_goW) 142 = .ok (.aload_n 0, 1) := dt_Ref_goW 89
theorem d_Ref_goW_143 : decode (jm_cod M_Ref_goW) 143 = .ok (.getfield 253, 3) := dt_Ref_goW 90
theorem d_Ref_goW_146 : decode (jm_cod M_Ref_goW) 146 = .ok (.iload_n 3, 1) := dt_Ref_goW 91
theorem d_Ref_goW_147 : decode (jm_cod M_Ref_goW) 147 = .ok (.baload, 1) := dt_Ref_goW 92
theorem d_Ref_goW_148 : decode (jm_cod M_Ref_goW) 148 = .ok (.ifCond .eq 18, 3) := dt_Ref_goW 93
theorem d_Ref_goW_151 : decode (jm_cod M_Ref_goW) 151 = .ok (.aload_n 0, 1) := dt_Ref_goW 94
theorem d_Ref_goW_152 : decode (jm_cod M_Ref_goW) 152 = .ok (.iload_n 1, 1) := dt_Ref_goW 95
theorem d_Ref_goW_153 : decode (jm_cod M_Ref_goW) 153 = .ok (.iload_n 3, 1) := dt_Ref_goW 96
theorem d_Ref_goW_154 : decode (jm_cod M_Ref_goW) 154 = .ok (.aload_n 0, 1) := dt_Ref_goW 97
theorem d_Ref_goW_155 : decode (jm_cod M_Ref_goW) 155 = .ok (.getfield 259, 3) := dt_Ref_goW 98
theorem d_Ref_goW_158 : decode (jm_cod M_Ref_goW) 158 = .ok (.iload_n 3, 1) := dt_Ref_goW 99
theorem d_Ref_goW_159 : decode (jm_cod M_Ref_goW) 159 = .ok (.iaload, 1) := dt_Ref_goW 100
theorem d_Ref_goW_160 : decode (jm_cod M_Ref_goW) 160 = .ok (.iconst 1, 1) := dt_Ref_goW 101
theorem d_Ref_goW_161 : decode (jm_cod M_Ref_goW) 161 = .ok (.isub, 1) := dt_Ref_goW 102
theorem d_Ref_goW_162 : decode (jm_cod M_Ref_goW) 162 = .ok (.iconst 1, 1) := dt_Ref_goW 103
theorem d_Ref_goW_163 : decode (jm_cod M_Ref_goW) 163 = .ok (.invokevirtual 437, 3) := dt_Ref_goW 104
theorem d_Ref_goW_166 : decode (jm_cod M_Ref_goW) 166 = .ok (.return_, 1) := dt_Ref_goW 105
def tab_Ref_goMaster : List (Nat × Instr × Nat) := [(0, .iload_n 2, 1), (1, .ifCond .eq 8, 3), (4, .iload_n 2, 1), (5, .iconst 3, 1), (6, .if_icmp .ne 12, 3), (9, .aload_n 0, 1), (10, .iload_n 1, 1), (11, .iload_n 2, 1), (12, .invokevirtual 498, 3), (15, .goto 22, 3), (18, .iload_n 2, 1), (19, .iconst 1, 1), (20, .if_icmp .ne 11, 3), (23, .aload_n 0, 1), (24, .iload_n 1, 1), (25, .invokevirtual 501, 3), (28, .goto 9, 3), (31, .aload_n 0, 1), (32, .iload_n 1, 1), (33, .iload_n 2, 1), (34, .invokevirtual 504, 3), (37, .return_, 1)]
theorem dt_Ref_goMaster (i : Nat) : decode (jm_cod M_Ref_goMaster) (tab_Ref_goMaster.getD i (0, .iload_n 2, 1)).1 = .ok ((tab_Ref_goMaster.getD i (0, .iload_n 2, 1)).2.1, (tab_Ref_goMaster.getD i (0, .iload_n 2, 1)).2.2) := j_tab (by decide +kernel) i
theorem d_Ref_goMaster_0 : decode (jm_cod M_Ref_goMaster) 0 = .ok (.iload_n 2, 1) := dt_Ref_goMaster 0
theorem d_Ref_goMaster_1 : decode (jm_cod M_Ref_goMaster) 1 = .ok (.ifCond .eq 8, 3) := dt_Ref_goMaster 1
theorem d_Ref_goMaster_4 : decode (jm_cod M_Ref_goMaster) 4 = .ok (.iload_n 2, 1) := dt_Ref_goMaster 2
theorem d_Ref_goMaster_5 : decode (jm_cod M_Ref_goMaster) 5 = .ok (.iconst 3, 1) := dt_Ref_goMaster 3
theorem d_Ref_goMaster_6 : decode (jm_cod M_Ref_goMaster) 6 = .ok (.if_icmp .ne 12, 3) := dt_Ref_goMaster 4
theorem d_Ref_goMaster_9 : decode (jm_cod M_Ref_goMaster) 9 = .ok (.aload_n 0, 1) := dt_Ref_goMaster 5
theorem d_Ref_goMaster_10 : decode (jm_cod M_Ref_goMaster) 10 = .ok (.iload_n 1, 1) := dt_Ref_goMaster 6
theorem d_Ref_goMaster_11 : decode (jm_cod M_Ref_goMaster) 11 = .ok (.iload_n 2, 1) := dt_Ref_goMaster 7
theorem d_Ref_goMaster_12 : decode (jm_cod M_Ref_goMaster) 12 = .ok (.invokevirtual 498, 3) := dt_Ref_goMaster 8
theorem d_Ref_goMaster_15 : decode (jm_cod M_Ref_goMaster) 15 = .ok (.goto 22, 3) := dt_Ref_goMaster 9
theorem d_Ref_goMaster_18 : decode (jm_cod M_Ref_goMaster) 18 = .ok (.iload_n 2, 1) := dt_Ref_goMaster 10
theorem d_Ref_goMaster_19 : decode (jm_cod M_Ref_goMaster) 19 = .ok (.iconst 1, 1) := dt_Ref_goMaster 11
theorem d_Ref_goMaster_20 : decode (jm_cod M_Ref_goMaster) 20 = .ok (.if_icmp .ne 11, 3) := dt_Ref_goMaster 12
theorem d_Ref_goMaster_23 : decode (jm_cod M_Ref_goMaster) 23 = .ok (.aload_n 0, 1) := dt_Ref_goMaster 13
theorem d_Ref_goMaster_24 : decode (jm_cod M_Ref_goMaster) 24 = .ok (.iload_n 1, 1) := dt_Ref_goMaster 14
theorem d_Ref_goMaster_25 : decode (jm_cod M_Ref_goMaster) 25 = .ok (.invokevirtual 501, 3) := dt_Ref_goMaster 15
theorem d_Ref_goMaster_28 : decode (jm_cod M_Ref_goMaster) 28 = .ok (.goto 9, 3) := dt_Ref_goMaster 16
theorem d_Ref_goMaster_31 : decode (jm_cod M_Ref_goMaster) 31 = .ok (.aload_n 0, 1) := dt_Ref_goMaster 17
theorem d_Ref_goMaster_32 : decode (jm_cod M_Ref_goMaster) 32 = .ok (.iload_n 1, 1) := dt_Ref_goMaster 18
theorem d_Ref_goMaster_33 : decode (jm_cod M_Ref_goMaster) 33 = .ok (.iload_n 2, 1) := dt_Ref_goMaster 19
theorem d_Ref_goMaster_34 : decode (jm_cod M_Ref_goMaster) 34 = .ok (.invokevirtual 504, 3) := dt_Ref_goMaster 20
theorem d_Ref_goMaster_37 : decode (jm_cod M_Ref_goMaster) 37 = .ok (.return_, 1) := dt_Ref_goMaster 21
def tab_Ref_addressSent : List (Nat × Instr × Nat) := [(0, .iconst 5, 1), (1, .iload_n 1, 1), (2, .imul, 1), (3, .iload_n 2, 1), (4, .iadd, 1), (5, .istore_n 3, 1), (6, .aload_n 0, 1), (7, .aload_n 0, 1), (8, .iconst 0, 1), (9, .iload_n 1, 1), (10, .iload_n 2, 1), (11, .invokevirtual 388, 3), (14, .aload_n 0, 1), (15, .getfield 94, 3), (18, .iload_n 3, 1), (19, .laload, 1), (20, .iconst 0, 1), (21, .aload_n 0, 1), (22, .getfield 348, 3), (25, .invokevirtual 469, 3), (28, .aload_n 0, 1), (29, .getfield 73, 3), (32, .aload_n 0, 1), (33, .iload_n 1, 1), (34, .iload_n 2, 1), (35, .ifCond .ne 7, 3), (38, .iconst 1, 1), (39, .goto 4, 3), (42, .iconst 0, 1), (43, .invokevirtual 344, 3), (46, .aload_n 0, 1), (47, .getfield 348, 3), (50, .iastore, 1), (51, .return_, 1)]
theorem dt_Ref_addressSent (i : Nat) : decode (jm_cod M_Ref_addressSent) (tab_Ref_addressSent.getD i (0, .iconst 5, 1)).1 = .ok ((tab_Ref_addressSent.getD i (0, .iconst 5, 1)).2.1, (tab_Ref_addressSent.getD i (0, .iconst 5, 1)).2.2) := j_tab (by decide +kernel) i
theorem d_Ref_addressSent_0 : decode (jm_cod M_Ref_addressSent) 0 = .ok (.iconst 5, 1) := dt_Ref_addressSent 0
theorem d_Ref_addressSent_1 : decode (jm_cod M_Ref_addressSent) 1 = .ok (.iload_n 1, 1) := dt_Ref_addressSent 1
theorem d_Ref_addressSent_2 : decode (jm_cod M_Ref_addressSent) 2 = .ok (.imul, 1) := dt_Ref_addressSent 2
theorem d_Ref_addressSent_3 : decode (jm_cod M_Ref_addressSent) 3 = .ok (.iload_n 2, 1) := dt_Ref_addressSent 3
theorem d_Ref_addressSent_4 : decode (jm_cod M_Ref_addressSent) 4 = .ok (.iadd, 1) := dt_Ref_addressSent 4
theorem d_Ref_addressSent_5 : decode (jm_cod M_Ref_addressSent) 5 = .ok (.istore_n 3, 1) := dt_Ref_addressSent 5
theorem d_Ref_addressSent_6 : decode (jm_cod M_Ref_addressSent) 6 = .ok (.aload_n 0, 1) := dt_Ref_addressSent 6
theorem d_Ref_addressSent_7 : decode (jm_cod M_Ref_addressSent) 7 = .ok (.aload_n 0, 1) := dt_Ref_addressSent 7
theorem d_Ref_addressSent_8 : decode (jm_cod M_Ref_addressSent) 8 = .ok (.iconst 0, 1) := dt_Ref_addressSent 8
theorem d_Ref_addressSent_9 : decode (jm_cod M_Ref_addressSent) 9 = .ok (.iload_n 1, 1) := dt_Ref_addressSent 9
theorem d_Ref_addressSent_10 : decode (jm_cod M_Ref_addressSent) 10 = .ok (.iload_n 2, 1) := dt_Ref_addressSent 10
theorem d_Ref_addressSent_11 : decode (jm_cod M_Ref_addressSent) 11 = .ok (.invokevirtual 388, 3) := dt_Ref_addressSent 11
theorem d_Ref_addressSent_14 : decode (jm_cod M_Ref_addressSent) 14 = .ok (.aload_n 0, 1) := dt_Ref_addressSent 12
theorem d_Ref_addressSent_15 : decode (jm_cod M_Ref_addressSent) 15 = .ok (.getfield 94, 3) := dt_Ref_addressSent 13
theorem d_Ref_addressSent_18 : decode (jm_cod M_Ref_addressSent) 18 = .ok (.iload_n 3, 1) := dt_Ref_addressSent 14
theorem d_Ref_addressSent_19 : decode (jm_cod M_Ref_addressSent) 19 = .ok (.laload, 1) := dt_Ref_addressSent 15
theorem d_Ref_addressSent_20 : decode (jm_cod M_Ref_addressSent) 20 = .ok (.iconst 0, 1) := dt_Ref_addressSent 16
theorem d_Ref_addressSent_21 : decode (jm_cod M_Ref_addressSent) 21 = .ok (.aload_n 0, 1) := dt_Ref_addressSent 17
theorem d_Ref_addressSent_22 : decode (jm_cod M_Ref_addressSent) 22 = .ok (.getfield 348, 3) := dt_Ref_addressSent 18
theorem d_Ref_addressSent_25 : decode (jm_cod M_Ref_addressSent) 25 = .ok (.invokevirtual 469, 3) := dt_Ref_addressSent 19
theorem d_Ref_addressSent_28 : decode (jm_cod M_Ref_addressSent) 28 = .ok (.aload_n 0, 1) := dt_Ref_addressSent 20
theorem d_Ref_addressSent_29 : decode (jm_cod M_Ref_addressSent) 29 = .ok (.getfield 73, 3) := dt_Ref_addressSent 21
theorem d_Ref_addressSent_32 : decode (jm_cod M_Ref_addressSent) 32 = .ok (.aload_n 0, 1) := dt_Ref_addressSent 22
theorem d_Ref_addressSent_33 : decode (jm_cod M_Ref_addressSent) 33 = .ok (.iload_n 1, 1) := dt_Ref_addressSent 23
theorem d_Ref_addressSent_34 : decode (jm_cod M_Ref_addressSent) 34 = .ok (.iload_n 2, 1) := dt_Ref_addressSent 24
theorem d_Ref_addressSent_35 : decode (jm_cod M_Ref_addressSent) 35 = .ok (.ifCond .ne 7, 3) := dt_Ref_addressSent 25
theorem d_Ref_addressSent_38 : decode (jm_cod M_Ref_addressSent) 38 = .ok (.iconst 1, 1) := dt_Ref_addressSent 26
theorem d_Ref_addressSent_39 : decode (jm_cod M_Ref_addressSent) 39 = .ok (.goto 4, 3) := dt_Ref_addressSent 27
theorem d_Ref_addressSent_42 : decode (jm_cod M_Ref_addressSent) 42 = .ok (.iconst 0, 1) := dt_Ref_addressSent 28
theorem d_Ref_addressSent_43 : decode (jm_cod M_Ref_addressSent) 43 = .ok (.invokevirtual 344, 3) := dt_Ref_addressSent 29
theorem d_Ref_addressSent_46 : decode (jm_cod M_Ref_addressSent) 46 = .ok (.aload_n 0, 1) := dt_Ref_addressSent 30
theorem d_Ref_addressSent_47 : decode (jm_cod M_Ref_addressSent) 47 = .ok (.getfield 348, 3) := dt_Ref_addressSent 31
theorem d_Ref_addressSent_50 : decode (jm_cod M_Ref_addressSent) 50 = .ok (.iastore, 1) := dt_Ref_addressSent 32
theorem d_Ref_addressSent_51 : decode (jm_cod M_Ref_addressSent) 51 = .ok (.return_, 1) := dt_Ref_addressSent 33
def tab_Ref_put : List (Nat × Instr × Nat) := [(0, .iconst 4, 1), (1, .iload_n 1, 1), (2, .imul, 1), (3, .aload_n 0, 1), (4, .getfield 115, 3), (7, .iload_n 1, 1), (8, .iaload, 1), (9, .iadd, 1), (10, .istore 6, 2), (12, .aload_n 0, 1), (13, .getfield 106, 3), (16, .iload 6, 2), (18, .lload_n 2, 1), (19, .lastore, 1), (20, .aload_n 0, 1), (21, .getfield 109, 3), (24, .iload 6, 2), (26, .iload 4, 2), (28, .iastore, 1), (29, .aload_n 0, 1), (30, .getfield 112, 3), (33, .iload 6, 2), (35, .iload 5, 2), (37, .iastore, 1), (38, .aload_n 0, 1), (39, .getfield 115, 3), (42, .iload_n 1, 1), (43, .dup2, 1), (44, .iaload, 1), (45, .iconst 1, 1), (46, .iadd, 1), (47, .iastore, 1), (48, .return_, 1)]
theorem dt_Ref_put (i : Nat) : decode (jm_cod M_Ref_put) (tab_Ref_put.getD i (0, .iconst 4, 1)).1 = .ok ((tab_Ref_put.getD i (0, .iconst 4, 1)).2.1, (tab_Ref_put.getD i (0, .iconst 4, 1)).2.2) := j_tab (by decide +kernel) i
theorem d_Ref_put_0 : decode (jm_cod M_Ref_put) 0 = .ok (.iconst 4, 1) := dt_Ref_put 0
theorem d_Ref_put_1 : decode (jm_cod M_Ref_put) 1 = .ok (.iload_n 1, 1) := dt_Ref_put 1
theorem d_Ref_put_2 : decode (jm_cod M_Ref_put) 2 = .ok (.imul, 1) := dt_Ref_put 2
theorem d_Ref_put_3 : decode (jm_cod M_Ref_put) 3 = .ok (.aload_n 0, 1) := dt_Ref_put 3
theorem d_Ref_put_4 : decode (jm_cod M_Ref_put) 4 = .ok (.getfield 115, 3) := dt_Ref_put 4
theorem d_Ref_put_7 : decode (jm_cod M_Ref_put) 7 = .ok (.iload_n 1, 1) := dt_Ref_put 5
theorem d_Ref_put_8 : decode (jm_cod M_Ref_put) 8 = .ok (.iaload, 1) := dt_Ref_put 6
theorem d_Ref_put_9 : decode (jm_cod M_Ref_put) 9 = .ok (.iadd, 1) := dt_Ref_put 7
theorem d_Ref_put_10 : decode (jm_cod M_Ref_put) 10 = .ok (.istore 6, 2) := dt_Ref_put 8
theorem d_Ref_put_12 : decode (jm_cod M_Ref_put) 12 = .ok (.aload_n 0, 1) := dt_Ref_put 9
theorem d_Ref_put_13 : decode (jm_cod M_Ref_put) 13 = .ok (.getfield 106, 3) := dt_Ref_put 10
theorem d_Ref_put_16 : decode (jm_cod M_Ref_put) 16 = .ok (.iload 6, 2) := dt_Ref_put 11
theorem d_Ref_put_18 : decode (jm_cod M_Ref_put) 18 = .ok (.lload_n 2, 1) := dt_Ref_put 12
theorem d_Ref_put_19 : decode (jm_cod M_Ref_put) 19 = .ok (.lastore, 1) := dt_Ref_put 13
theorem d_Ref_put_20 : decode (jm_cod M_Ref_put) 20 = .ok (.aload_n 0, 1) := dt_Ref_put 14
theorem d_Ref_put_21 : decode (jm_cod M_Ref_put) 21 = .ok (.getfield 109, 3) := dt_Ref_put 15
theorem d_Ref_put_24 : decode (jm_cod M_Ref_put) 24 = .ok (.iload 6, 2) := dt_Ref_put 16
theorem d_Ref_put_26 : decode (jm_cod M_Ref_put) 26 = .ok (.iload 4, 2) := dt_Ref_put 17
theorem d_Ref_put_28 : decode (jm_cod M_Ref_put) 28 = .ok (.iastore, 1) := dt_Ref_put 18
theorem d_Ref_put_29 : decode (jm_cod M_Ref_put) 29 = .ok (.aload_n 0, 1) := dt_Ref_put 19
theorem d_Ref_put_30 : decode (jm_cod M_Ref_put) 30 = .ok (.getfield 112, 3) := dt_Ref_put 20
theorem d_Ref_put_33 : decode (jm_cod M_Ref_put) 33 = .ok (.iload 6, 2) := dt_Ref_put 21
theorem d_Ref_put_35 : decode (jm_cod M_Ref_put) 35 = .ok (.iload 5, 2) := dt_Ref_put 22
theorem d_Ref_put_37 : decode (jm_cod M_Ref_put) 37 = .ok (.iastore, 1) := dt_Ref_put 23
theorem d_Ref_put_38 : decode (jm_cod M_Ref_put) 38 = .ok (.aload_n 0, 1) := dt_Ref_put 24
theorem d_Ref_put_39 : decode (jm_cod M_Ref_put) 39 = .ok (.getfield 115, 3) := dt_Ref_put 25
theorem d_Ref_put_42 : decode (jm_cod M_Ref_put) 42 = .ok (.iload_n 1, 1) := dt_Ref_put 26
theorem d_Ref_put_43 : decode (jm_cod M_Ref_put) 43 = .ok (.dup2, 1) := dt_Ref_put 27
theorem d_Ref_put_44 : decode (jm_cod M_Ref_put) 44 = .ok (.iaload, 1) := dt_Ref_put 28
theorem d_Ref_put_45 : decode (jm_cod M_Ref_put) 45 = .ok (.iconst 1, 1) := dt_Ref_put 29
theorem d_Ref_put_46 : decode (jm_cod M_Ref_put) 46 = .ok (.iadd, 1) := dt_Ref_put 30
theorem d_Ref_put_47 : decode (jm_cod M_Ref_put) 47 = .ok (.iastore, 1) := dt_Ref_put 31
theorem d_Ref_put_48 : decode (jm_cod M_Ref_put) 48 = .ok (.return_, 1) := dt_Ref_put 32
def tab_Ref_dataSent : List (Nat × Instr × Nat) := [(0, .iconst 5, 1), (1, .iload_n 1, 1), (2, .imul, 1), (3, .iconst 1, 1), (4, .iadd, 1), (5, .istore_n 2, 1), (6, .aload_n 0, 1), (7, .aload_n 0, 1), (8, .iconst 0, 1), (9, .iload_n 1, 1), (10, .iconst 1, 1), (11, .invokevirtual 388, 3), (14, .aload_n 0, 1), (15, .getfield 94, 3), (18, .iload_n 2, 1), (19, .laload, 1), (20, .aload_n 0, 1), (21, .getfield 97, 3), (24, .iload_n 2, 1), (25, .iaload, 1), (26, .aload_n 0, 1), (27, .getfield 348, 3), (30, .invokevirtual 469, 3), (33, .aload_n 0, 1), (34, .iload_n 1, 1), (35, .invokevirtual 363, 3), (38, .istore_n 3, 1), (39, .aload_n 0, 1), (40, .getfield 85, 3), (43, .bipush 16, 2), (45, .iload_n 3, 1), (46, .imul, 1), (47, .aload_n 0, 1), (48, .getfield 79, 3), (51, .iload_n 3, 1), (52, .iaload, 1), (53, .iadd, 1), (54, .aload_n 0, 1), (55, .getfield 94, 3), (58, .iload_n 2, 1), (59, .laload, 1), (60, .lastore, 1), (61, .aload_n 0, 1), (62, .getfield 66, 3), (65, .iload_n 3, 1), (66, .aload_n 0, 1), (67, .getfield 66, 3), (70, .iload_n 3, 1), (71, .laload, 1), (72, .ldc2_w 373, 3), (75, .lmul, 1), (76, .ldc2_w 375, 3), (79, .ladd, 1), (80, .lastore, 1), (81, .aload_n 0, 1), (82, .getfield 79, 3), (85, .iload_n 3, 1), (86, .dup2, 1), (87, .iaload, 1), (88, .iconst 1, 1), (89, .iadd, 1), (90, .iastore, 1), (91, .return_, 1)]
theorem dt_Ref_dataSent (i : Nat) : decode (jm_cod M_Ref_dataSent) (tab_Ref_dataSent.getD i (0, .iconst 5, 1)).1 = .ok ((tab_Ref_dataSent.getD i (0, .iconst 5, 1)).2.1, (tab_Ref_dataSent.getD i (0, .iconst 5, 1)).2.2) := j_tab (by decide +kernel) i
theorem d_Ref_dataSent_0 : decode (jm_cod M_Ref_dataSent) 0 = .ok (.iconst 5, 1) := dt_Ref_dataSent 0
theorem d_Ref_dataSent_1 : decode (jm_cod M_Ref_dataSent) 1 = .ok (.iload_n 1, 1) := dt_Ref_dataSent 1
theorem d_Ref_dataSent_2 : decode (jm_cod M_Ref_dataSent) 2 = .ok (.imul, 1) := dt_Ref_dataSent 2
theorem d_Ref_dataSent_3 : decode (jm_cod M_Ref_dataSent) 3 = .ok (.iconst 1, 1) := dt_Ref_dataSent 3
theorem d_Ref_dataSent_4 : decode (jm_cod M_Ref_dataSent) 4 = .ok (.iadd, 1) := dt_Ref_dataSent 4
theorem d_Ref_dataSent_5 : decode (jm_cod M_Ref_dataSent) 5 = .ok (.istore_n 2, 1) := dt_Ref_dataSent 5
theorem d_Ref_dataSent_6 : decode (jm_cod M_Ref_dataSent) 6 = .ok (.aload_n 0, 1) := dt_Ref_dataSent 6
theorem d_Ref_dataSent_7 : decode (jm_cod M_Ref_dataSent) 7 = .ok (.aload_n 0, 1) := dt_Ref_dataSent 7
theorem d_Ref_dataSent_8 : decode (jm_cod M_Ref_dataSent) 8 = .ok (.iconst 0, 1) := dt_Ref_dataSent 8
theorem d_Ref_dataSent_9 : decode (jm_cod M_Ref_dataSent) 9 = .ok (.iload_n 1, 1) := dt_Ref_dataSent 9
theorem d_Ref_dataSent_10 : decode (jm_cod M_Ref_dataSent) 10 = .ok (.iconst 1, 1) := dt_Ref_dataSent 10
theorem d_Ref_dataSent_11 : decode (jm_cod M_Ref_dataSent) 11 = .ok (.invokevirtual 388, 3) := dt_Ref_dataSent 11
theorem d_Ref_dataSent_14 : decode (jm_cod M_Ref_dataSent) 14 = .ok (.aload_n 0, 1) := dt_Ref_dataSent 12
theorem d_Ref_dataSent_15 : decode (jm_cod M_Ref_dataSent) 15 = .ok (.getfield 94, 3) := dt_Ref_dataSent 13
theorem d_Ref_dataSent_18 : decode (jm_cod M_Ref_dataSent) 18 = .ok (.iload_n 2, 1) := dt_Ref_dataSent 14
theorem d_Ref_dataSent_19 : decode (jm_cod M_Ref_dataSent) 19 = .ok (.laload, 1) := dt_Ref_dataSent 15
theorem d_Ref_dataSent_20 : decode (jm_cod M_Ref_dataSent) 20 = .ok (.aload_n 0, 1) := dt_Ref_dataSent 16
theorem d_Ref_dataSent_21 : decode (jm_cod M_Ref_dataSent) 21 = .ok (.getfield 97, 3) := dt_Ref_dataSent 17
theorem d_Ref_dataSent_24 : decode (jm_cod M_Ref_dataSent) 24 = .ok (.iload_n 2, 1) := dt_Ref_dataSent 18
theorem d_Ref_dataSent_25 : decode (jm_cod M_Ref_dataSent) 25 = .ok (.iaload, 1) := dt_Ref_dataSent 19
theorem d_Ref_dataSent_26 : decode (jm_cod M_Ref_dataSent) 26 = .ok (.aload_n 0, 1) := dt_Ref_dataSent 20
theorem d_Ref_dataSent_27 : decode (jm_cod M_Ref_dataSent) 27 = .ok (.getfield 348, 3) := dt_Ref_dataSent 21
theorem d_Ref_dataSent_30 : decode (jm_cod M_Ref_dataSent) 30 = .ok (.invokevirtual 469, 3) := dt_Ref_dataSent 22
theorem d_Ref_dataSent_33 : decode (jm_cod M_Ref_dataSent) 33 = .ok (.aload_n 0, 1) := dt_Ref_dataSent 23
theorem d_Ref_dataSent_34 : decode (jm_cod M_Ref_dataSent) 34 = .ok (.iload_n 1, 1) := dt_Ref_dataSent 24
theorem d_Ref_dataSent_35 : decode (jm_cod M_Ref_dataSent) 35 = .ok (.invokevirtual 363, 3) := dt_Ref_dataSent 25
theorem d_Ref_dataSent_38 : decode (jm_cod M_Ref_dataSent) 38 = .ok (.istore_n 3, 1) := dt_Ref_dataSent 26
theorem d_Ref_dataSent_39 : decode (jm_cod M_Ref_dataSent) 39 = .ok (.aload_n 0, 1) := dt_Ref_dataSent 27
theorem d_Ref_dataSent_40 : decode (jm_cod M_Ref_dataSent) 40 = .ok (.getfield 85, 3) := dt_Ref_dataSent 28
theorem d_Ref_dataSent_43 : decode (jm_cod M_Ref_dataSent) 43 = .ok (.bipush 16, 2) := dt_Ref_dataSent 29
theorem d_Ref_dataSent_45 : decode (jm_cod M_Ref_dataSent) 45 = .ok (.iload_n 3, 1) := dt_Ref_dataSent 30
theorem d_Ref_dataSent_46 : decode (jm_cod M_Ref_dataSent) 46 = .ok (.imul, 1) := dt_Ref_dataSent 31
theorem d_Ref_dataSent_47 : decode (jm_cod M_Ref_dataSent) 47 = .ok (.aload_n 0, 1) := dt_Ref_dataSent 32
theorem d_Ref_dataSent_48 : decode (jm_cod M_Ref_dataSent) 48 = .ok (.getfield 79, 3) := dt_Ref_dataSent 33
theorem d_Ref_dataSent_51 : decode (jm_cod M_Ref_dataSent) 51 = .ok (.iload_n 3, 1) := dt_Ref_dataSent 34
theorem d_Ref_dataSent_52 : decode (jm_cod M_Ref_dataSent) 52 = .ok (.iaload, 1) := dt_Ref_dataSent 35
theorem d_Ref_dataSent_53 : decode (jm_cod M_Ref_dataSent) 53 = .ok (.iadd, 1) := dt_Ref_dataSent 36
theorem d_Ref_dataSent_54 : decode (jm_cod M_Ref_dataSent) 54 = .ok (.aload_n 0, 1) := dt_Ref_dataSent 37
theorem d_Ref_dataSent_55 : decode (jm_cod M_Ref_dataSent) 55 = .ok (.getfield 94, 3) := dt_Ref_dataSent 38
theorem d_Ref_dataSent_58 : decode (jm_cod M_Ref_dataSent) 58 = .ok (.iload_n 2, 1) := dt_Ref_dataSent 39
theorem d_Ref_dataSent_59 : decode (jm_cod M_Ref_dataSent) 59 = .ok (.laload, 1) := dt_Ref_dataSent 40
theorem d_Ref_dataSent_60 : decode (jm_cod M_Ref_dataSent) 60 = .ok (.lastore, 1) := dt_Ref_dataSent 41
theorem d_Ref_dataSent_61 : decode (jm_cod M_Ref_dataSent) 61 = .ok (.aload_n 0, 1) := dt_Ref_dataSent 42
theorem d_Ref_dataSent_62 : decode (jm_cod M_Ref_dataSent) 62 = .ok (.getfield 66, 3) := dt_Ref_dataSent 43
theorem d_Ref_dataSent_65 : decode (jm_cod M_Ref_dataSent) 65 = .ok (.iload_n 3, 1) := dt_Ref_dataSent 44
theorem d_Ref_dataSent_66 : decode (jm_cod M_Ref_dataSent) 66 = .ok (.aload_n 0, 1) := dt_Ref_dataSent 45
theorem d_Ref_dataSent_67 : decode (jm_cod M_Ref_dataSent) 67 = .ok (.getfield 66, 3) := dt_Ref_dataSent 46
theorem d_Ref_dataSent_70 : decode (jm_cod M_Ref_dataSent) 70 = .ok (.iload_n 3, 1) := dt_Ref_dataSent 47
theorem d_Ref_dataSent_71 : decode (jm_cod M_Ref_dataSent) 71 = .ok (.laload, 1) := dt_Ref_dataSent 48
theorem d_Ref_dataSent_72 : decode (jm_cod M_Ref_dataSent) 72 = .ok (.ldc2_w 373, 3) := dt_Ref_dataSent 49
theorem d_Ref_dataSent_75 : decode (jm_cod M_Ref_dataSent) 75 = .ok (.lmul, 1) := dt_Ref_dataSent 50
theorem d_Ref_dataSent_76 : decode (jm_cod M_Ref_dataSent) 76 = .ok (.ldc2_w 375, 3) := dt_Ref_dataSent 51
theorem d_Ref_dataSent_79 : decode (jm_cod M_Ref_dataSent) 79 = .ok (.ladd, 1) := dt_Ref_dataSent 52
theorem d_Ref_dataSent_80 : decode (jm_cod M_Ref_dataSent) 80 = .ok (.lastore, 1) := dt_Ref_dataSent 53
theorem d_Ref_dataSent_81 : decode (jm_cod M_Ref_dataSent) 81 = .ok (.aload_n 0, 1) := dt_Ref_dataSent 54
theorem d_Ref_dataSent_82 : decode (jm_cod M_Ref_dataSent) 82 = .ok (.getfield 79, 3) := dt_Ref_dataSent 55
theorem d_Ref_dataSent_85 : decode (jm_cod M_Ref_dataSent) 85 = .ok (.iload_n 3, 1) := dt_Ref_dataSent 56
theorem d_Ref_dataSent_86 : decode (jm_cod M_Ref_dataSent) 86 = .ok (.dup2, 1) := dt_Ref_dataSent 57
theorem d_Ref_dataSent_87 : decode (jm_cod M_Ref_dataSent) 87 = .ok (.iaload, 1) := dt_Ref_dataSent 58
theorem d_Ref_dataSent_88 : decode (jm_cod M_Ref_dataSent) 88 = .ok (.iconst 1, 1) := dt_Ref_dataSent 59
theorem d_Ref_dataSent_89 : decode (jm_cod M_Ref_dataSent) 89 = .ok (.iadd, 1) := dt_Ref_dataSent 60
theorem d_Ref_dataSent_90 : decode (jm_cod M_Ref_dataSent) 90 = .ok (.iastore, 1) := dt_Ref_dataSent 61
theorem d_Ref_dataSent_91 : decode (jm_cod M_Ref_dataSent) 91 = .ok (.return_, 1) := dt_Ref_dataSent 62
def tab_Ref_answerCame : List (Nat × Instr × Nat) := [(0, .iconst 5, 1), (1, .iload_n 1, 1), (2, .imul, 1), (3, .iload_n 2, 1), (4, .iadd, 1), (5, .istore_n 3, 1), (6, .aload_n 0, 1), (7, .aload_n 0, 1), (8, .iconst 0, 1), (9, .iload_n 1, 1), (10, .iload_n 2, 1), (11, .invokevirtual 388, 3), (14, .invokevirtual 473, 3), (17, .aload_n 0, 1), (18, .iload_n 1, 1), (19, .aload_n 0, 1), (20, .getfield 97, 3), (23, .iload_n 3, 1), (24, .iaload, 1), (25, .bipush 63, 2), (27, .iand, 1), (28, .iload_n 2, 1), (29, .iconst 2, 1), (30, .if_icmp .ne 7, 3), (33, .iconst 1, 1), (34, .goto 4, 3), (37, .iconst 0, 1), (38, .invokevirtual 476, 3), (41, .istore 4, 2), (43, .iload 4, 2), (45, .iconst (-1), 1), (46, .if_icmp .ne 4, 3), (49, .return_, 1), (50, .aload_n 0, 1), (51, .getfield 97, 3), (54, .iload_n 3, 1), (55, .iaload, 1), (56, .bipush 6, 2), (58, .ishr, 1), (59, .iconst 3, 1), (60, .iand, 1), (61, .istore 5, 2), (63, .aload_n 0, 1), (64, .getfield 82, 3), (67, .iload 4, 2), (69, .iload 5, 2), (71, .aload_n 0, 1), (72, .getfield 82, 3), (75, .iload 4, 2), (77, .iaload, 1), (78, .if_icmp .le 8, 3), (81, .iload 5, 2), (83, .goto 10, 3), (86, .aload_n 0, 1), (87, .getfield 82, 3), (90, .iload 4, 2), (92, .iaload, 1), (93, .iastore, 1), (94, .iload_n 2, 1), (95, .iconst 2, 1), (96, .if_icmp .ne 15, 3), (99, .aload_n 0, 1), (100, .getfield 76, 3), (103, .iload 4, 2), (105, .aload_n 0, 1), (106, .getfield 348, 3), (109, .iastore, 1), (110, .return_, 1), (111, .aload_n 0, 1), (112, .getfield 85, 3), (115, .bipush 16, 2), (117, .iload 4, 2), (119, .imul, 1), (120, .aload_n 0, 1), (121, .getfield 79, 3), (124, .iload 4, 2), (126, .iaload, 1), (127, .iadd, 1), (128, .aload_n 0, 1), (129, .getfield 94, 3), (132, .iload_n 3, 1), (133, .laload, 1), (134, .lastore, 1), (135, .aload_n 0, 1), (136, .getfield 79, 3), (139, .iload 4, 2), (141, .dup2, 1), (142, .iaload, 1), (143, .iconst 1, 1), (144, .iadd, 1), (145, .iastore, 1), (146, .aload_n 0, 1), (147, .getfield 76, 3), (150, .iload 4, 2), (152, .aload_n 0, 1), (153, .getfield 79, 3), (156, .iload 4, 2), (158, .iaload, 1), (159, .aload_n 0, 1), (160, .getfield 39, 3), (163, .iload 4, 2), (165, .iaload, 1), (166, .if_icmp .ne 10, 3), (169, .aload_n 0, 1), (170, .getfield 348, 3), (173, .goto 4, 3), (176, .iconst (-1), 1), (177, .iastore, 1), (178, .return_, 1)]
theorem dt_Ref_answerCame (i : Nat) : decode (jm_cod M_Ref_answerCame) (tab_Ref_answerCame.getD i (0, .iconst 5, 1)).1 = .ok ((tab_Ref_answerCame.getD i (0, .iconst 5, 1)).2.1, (tab_Ref_answerCame.getD i (0, .iconst 5, 1)).2.2) := j_tab (by decide +kernel) i
theorem d_Ref_answerCame_0 : decode (jm_cod M_Ref_answerCame) 0 = .ok (.iconst 5, 1) := dt_Ref_answerCame 0
theorem d_Ref_answerCame_1 : decode (jm_cod M_Ref_answerCame) 1 = .ok (.iload_n 1, 1) := dt_Ref_answerCame 1
theorem d_Ref_answerCame_2 : decode (jm_cod M_Ref_answerCame) 2 = .ok (.imul, 1) := dt_Ref_answerCame 2
theorem d_Ref_answerCame_3 : decode (jm_cod M_Ref_answerCame) 3 = .ok (.iload_n 2, 1) := dt_Ref_answerCame 3
theorem d_Ref_answerCame_4 : decode (jm_cod M_Ref_answerCame) 4 = .ok (.iadd, 1) := dt_Ref_answerCame 4
theorem d_Ref_answerCame_5 : decode (jm_cod M_Ref_answerCame) 5 = .ok (.istore_n 3, 1) := dt_Ref_answerCame 5
theorem d_Ref_answerCame_6 : decode (jm_cod M_Ref_answerCame) 6 = .ok (.aload_n 0, 1) := dt_Ref_answerCame 6
theorem d_Ref_answerCame_7 : decode (jm_cod M_Ref_answerCame) 7 = .ok (.aload_n 0, 1) := dt_Ref_answerCame 7
theorem d_Ref_answerCame_8 : decode (jm_cod M_Ref_answerCame) 8 = .ok (.iconst 0, 1) := dt_Ref_answerCame 8
theorem d_Ref_answerCame_9 : decode (jm_cod M_Ref_answerCame) 9 = .ok (.iload_n 1, 1) := dt_Ref_answerCame 9
theorem d_Ref_answerCame_10 : decode (jm_cod M_Ref_answerCame) 10 = .ok (.iload_n 2, 1) := dt_Ref_answerCame 10
theorem d_Ref_answerCame_11 : decode (jm_cod M_Ref_answerCame) 11 = .ok (.invokevirtual 388, 3) := dt_Ref_answerCame 11
theorem d_Ref_answerCame_14 : decode (jm_cod M_Ref_answerCame) 14 = .ok (.invokevirtual 473, 3) := dt_Ref_answerCame 12
theorem d_Ref_answerCame_17 : decode (jm_cod M_Ref_answerCame) 17 = .ok (.aload_n 0, 1) := dt_Ref_answerCame 13
theorem d_Ref_answerCame_18 : decode (jm_cod M_Ref_answerCame) 18 = .ok (.iload_n 1, 1) := dt_Ref_answerCame 14
theorem d_Ref_answerCame_19 : decode (jm_cod M_Ref_answerCame) 19 = .ok (.aload_n 0, 1) := dt_Ref_answerCame 15
theorem d_Ref_answerCame_20 : decode (jm_cod M_Ref_answerCame) 20 = .ok (.getfield 97, 3) := dt_Ref_answerCame 16
theorem d_Ref_answerCame_23 : decode (jm_cod M_Ref_answerCame) 23 = .ok (.iload_n 3, 1) := dt_Ref_answerCame 17
theorem d_Ref_answerCame_24 : decode (jm_cod M_Ref_answerCame) 24 = .ok (.iaload, 1) := dt_Ref_answerCame 18
theorem d_Ref_answerCame_25 : decode (jm_cod M_Ref_answerCame) 25 = .ok (.bipush 63, 2) := dt_Ref_answerCame 19
theorem d_Ref_answerCame_27 : decode (jm_cod M_Ref_answerCame) 27 = .ok (.iand, 1) := dt_Ref_answerCame 20
theorem d_Ref_answerCame_28 : decode (jm_cod M_Ref_answerCame) 28 = .ok (.iload_n 2, 1) := dt_Ref_answerCame 21
theorem d_Ref_answerCame_29 : decode (jm_cod M_Ref_answerCame) 29 = .ok (.iconst 2, 1) := dt_Ref_answerCame 22
theorem d_Ref_answerCame_30 : decode (jm_cod M_Ref_answerCame) 30 = .ok (.if_icmp .ne 7, 3) := dt_Ref_answerCame 23
theorem d_Ref_answerCame_33 : decode (jm_cod M_Ref_answerCame) 33 = .ok (.iconst 1, 1) := dt_Ref_answerCame 24
theorem d_Ref_answerCame_34 : decode (jm_cod M_Ref_answerCame) 34 = .ok (.goto 4, 3) := dt_Ref_answerCame 25
theorem d_Ref_answerCame_37 : decode (jm_cod M_Ref_answerCame) 37 = .ok (.iconst 0, 1) := dt_Ref_answerCame 26
theorem d_Ref_answerCame_38 : decode (jm_cod M_Ref_answerCame) 38 = .ok (.invokevirtual 476, 3) := dt_Ref_answerCame 27
theorem d_Ref_answerCame_41 : decode (jm_cod M_Ref_answerCame) 41 = .ok (.istore 4, 2) := dt_Ref_answerCame 28
theorem d_Ref_answerCame_43 : decode (jm_cod M_Ref_answerCame) 43 = .ok (.iload 4, 2) := dt_Ref_answerCame 29
theorem d_Ref_answerCame_45 : decode (jm_cod M_Ref_answerCame) 45 = .ok (.iconst (-1), 1) := dt_Ref_answerCame 30
theorem d_Ref_answerCame_46 : decode (jm_cod M_Ref_answerCame) 46 = .ok (.if_icmp .ne 4, 3) := dt_Ref_answerCame 31
theorem d_Ref_answerCame_49 : decode (jm_cod M_Ref_answerCame) 49 = .ok (.return_, 1) := dt_Ref_answerCame 32
theorem d_Ref_answerCame_50 : decode (jm_cod M_Ref_answerCame) 50 = .ok (.aload_n 0, 1) := dt_Ref_answerCame 33
theorem d_Ref_answerCame_51 : decode (jm_cod M_Ref_answerCame) 51 = .ok (.getfield 97, 3) := dt_Ref_answerCame 34
theorem d_Ref_answerCame_54 : decode (jm_cod M_Ref_answerCame) 54 = .ok (.iload_n 3, 1) := dt_Ref_answerCame 35
theorem d_Ref_answerCame_55 : decode (jm_cod M_Ref_answerCame) 55 = .ok (.iaload, 1) := dt_Ref_answerCame 36
theorem d_Ref_answerCame_56 : decode (jm_cod M_Ref_answerCame) 56 = .ok (.bipush 6, 2) := dt_Ref_answerCame 37
theorem d_Ref_answerCame_58 : decode (jm_cod M_Ref_answerCame) 58 = .ok (.ishr, 1) := dt_Ref_answerCame 38
theorem d_Ref_answerCame_59 : decode (jm_cod M_Ref_answerCame) 59 = .ok (.iconst 3, 1) := dt_Ref_answerCame 39
theorem d_Ref_answerCame_60 : decode (jm_cod M_Ref_answerCame) 60 = .ok (.iand, 1) := dt_Ref_answerCame 40
theorem d_Ref_answerCame_61 : decode (jm_cod M_Ref_answerCame) 61 = .ok (.istore 5, 2) := dt_Ref_answerCame 41
theorem d_Ref_answerCame_63 : decode (jm_cod M_Ref_answerCame) 63 = .ok (.aload_n 0, 1) := dt_Ref_answerCame 42
theorem d_Ref_answerCame_64 : decode (jm_cod M_Ref_answerCame) 64 = .ok (.getfield 82, 3) := dt_Ref_answerCame 43
theorem d_Ref_answerCame_67 : decode (jm_cod M_Ref_answerCame) 67 = .ok (.iload 4, 2) := dt_Ref_answerCame 44
theorem d_Ref_answerCame_69 : decode (jm_cod M_Ref_answerCame) 69 = .ok (.iload 5, 2) := dt_Ref_answerCame 45
theorem d_Ref_answerCame_71 : decode (jm_cod M_Ref_answerCame) 71 = .ok (.aload_n 0, 1) := dt_Ref_answerCame 46
theorem d_Ref_answerCame_72 : decode (jm_cod M_Ref_answerCame) 72 = .ok (.getfield 82, 3) := dt_Ref_answerCame 47
theorem d_Ref_answerCame_75 : decode (jm_cod M_Ref_answerCame) 75 = .ok (.iload 4, 2) := dt_Ref_answerCame 48
theorem d_Ref_answerCame_77 : decode (jm_cod M_Ref_answerCame) 77 = .ok (.iaload, 1) := dt_Ref_answerCame 49
theorem d_Ref_answerCame_78 : decode (jm_cod M_Ref_answerCame) 78 = .ok (.if_icmp .le 8, 3) := dt_Ref_answerCame 50
theorem d_Ref_answerCame_81 : decode (jm_cod M_Ref_answerCame) 81 = .ok (.iload 5, 2) := dt_Ref_answerCame 51
theorem d_Ref_answerCame_83 : decode (jm_cod M_Ref_answerCame) 83 = .ok (.goto 10, 3) := dt_Ref_answerCame 52
theorem d_Ref_answerCame_86 : decode (jm_cod M_Ref_answerCame) 86 = .ok (.aload_n 0, 1) := dt_Ref_answerCame 53
theorem d_Ref_answerCame_87 : decode (jm_cod M_Ref_answerCame) 87 = .ok (.getfield 82, 3) := dt_Ref_answerCame 54
theorem d_Ref_answerCame_90 : decode (jm_cod M_Ref_answerCame) 90 = .ok (.iload 4, 2) := dt_Ref_answerCame 55
theorem d_Ref_answerCame_92 : decode (jm_cod M_Ref_answerCame) 92 = .ok (.iaload, 1) := dt_Ref_answerCame 56
theorem d_Ref_answerCame_93 : decode (jm_cod M_Ref_answerCame) 93 = .ok (.iastore, 1) := dt_Ref_answerCame 57
theorem d_Ref_answerCame_94 : decode (jm_cod M_Ref_answerCame) 94 = .ok (.iload_n 2, 1) := dt_Ref_answerCame 58
theorem d_Ref_answerCame_95 : decode (jm_cod M_Ref_answerCame) 95 = .ok (.iconst 2, 1) := dt_Ref_answerCame 59
theorem d_Ref_answerCame_96 : decode (jm_cod M_Ref_answerCame) 96 = .ok (.if_icmp .ne 15, 3) := dt_Ref_answerCame 60
theorem d_Ref_answerCame_99 : decode (jm_cod M_Ref_answerCame) 99 = .ok (.aload_n 0, 1) := dt_Ref_answerCame 61
theorem d_Ref_answerCame_100 : decode (jm_cod M_Ref_answerCame) 100 = .ok (.getfield 76, 3) := dt_Ref_answerCame 62
theorem d_Ref_answerCame_103 : decode (jm_cod M_Ref_answerCame) 103 = .ok (.iload 4, 2) := dt_Ref_answerCame 63
theorem d_Ref_answerCame_105 : decode (jm_cod M_Ref_answerCame) 105 = .ok (.aload_n 0, 1) := dt_Ref_answerCame 64
theorem d_Ref_answerCame_106 : decode (jm_cod M_Ref_answerCame) 106 = .ok (.getfield 348, 3) := dt_Ref_answerCame 65
theorem d_Ref_answerCame_109 : decode (jm_cod M_Ref_answerCame) 109 = .ok (.iastore, 1) := dt_Ref_answerCame 66
theorem d_Ref_answerCame_110 : decode (jm_cod M_Ref_answerCame) 110 = .ok (.return_, 1) := dt_Ref_answerCame 67
theorem d_Ref_answerCame_111 : decode (jm_cod M_Ref_answerCame) 111 = .ok (.aload_n 0, 1) := dt_Ref_answerCame 68
theorem d_Ref_answerCame_112 : decode (jm_cod M_Ref_answerCame) 112 = .ok (.getfield 85, 3) := dt_Ref_answerCame 69
theorem d_Ref_answerCame_115 : decode (jm_cod M_Ref_answerCame) 115 = .ok (.bipush 16, 2) := dt_Ref_answerCame 70
theorem d_Ref_answerCame_117 : decode (jm_cod M_Ref_answerCame) 117 = .ok (.iload 4, 2) := dt_Ref_answerCame 71
theorem d_Ref_answerCame_119 : decode (jm_cod M_Ref_answerCame) 119 = .ok (.imul, 1) := dt_Ref_answerCame 72
theorem d_Ref_answerCame_120 : decode (jm_cod M_Ref_answerCame) 120 = .ok (.aload_n 0, 1) := dt_Ref_answerCame 73
theorem d_Ref_answerCame_121 : decode (jm_cod M_Ref_answerCame) 121 = .ok (.getfield 79, 3) := dt_Ref_answerCame 74
theorem d_Ref_answerCame_124 : decode (jm_cod M_Ref_answerCame) 124 = .ok (.iload 4, 2) := dt_Ref_answerCame 75
theorem d_Ref_answerCame_126 : decode (jm_cod M_Ref_answerCame) 126 = .ok (.iaload, 1) := dt_Ref_answerCame 76
theorem d_Ref_answerCame_127 : decode (jm_cod M_Ref_answerCame) 127 = .ok (.iadd, 1) := dt_Ref_answerCame 77
theorem d_Ref_answerCame_128 : decode (jm_cod M_Ref_answerCame) 128 = .ok (.aload_n 0, 1) := dt_Ref_answerCame 78
theorem d_Ref_answerCame_129 : decode (jm_cod M_Ref_answerCame) 129 = .ok (.getfield 94, 3) := dt_Ref_answerCame 79
theorem d_Ref_answerCame_132 : decode (jm_cod M_Ref_answerCame) 132 = .ok (.iload_n 3, 1) := dt_Ref_answerCame 80
theorem d_Ref_answerCame_133 : decode (jm_cod M_Ref_answerCame) 133 = .ok (.laload, 1) := dt_Ref_answerCame 81
theorem d_Ref_answerCame_134 : decode (jm_cod M_Ref_answerCame) 134 = .ok (.lastore, 1) := dt_Ref_answerCame 82
theorem d_Ref_answerCame_135 : decode (jm_cod M_Ref_answerCame) 135 = .ok (.aload_n 0, 1) := dt_Ref_answerCame 83
theorem d_Ref_answerCame_136 : decode (jm_cod M_Ref_answerCame) 136 = .ok (.getfield 79, 3) := dt_Ref_answerCame 84
theorem d_Ref_answerCame_139 : decode (jm_cod M_Ref_answerCame) 139 = .ok (.iload 4, 2) := dt_Ref_answerCame 85
theorem d_Ref_answerCame_141 : decode (jm_cod M_Ref_answerCame) 141 = .ok (.dup2, 1) := dt_Ref_answerCame 86
theorem d_Ref_answerCame_142 : decode (jm_cod M_Ref_answerCame) 142 = .ok (.iaload, 1) := dt_Ref_answerCame 87
theorem d_Ref_answerCame_143 : decode (jm_cod M_Ref_answerCame) 143 = .ok (.iconst 1, 1) := dt_Ref_answerCame 88
theorem d_Ref_answerCame_144 : decode (jm_cod M_Ref_answerCame) 144 = .ok (.iadd, 1) := dt_Ref_answerCame 89
theorem d_Ref_answerCame_145 : decode (jm_cod M_Ref_answerCame) 145 = .ok (.iastore, 1) := dt_Ref_answerCame 90
theorem d_Ref_answerCame_146 : decode (jm_cod M_Ref_answerCame) 146 = .ok (.aload_n 0, 1) := dt_Ref_answerCame 91
theorem d_Ref_answerCame_147 : decode (jm_cod M_Ref_answerCame) 147 = .ok (.getfield 76, 3) := dt_Ref_answerCame 92
theorem d_Ref_answerCame_150 : decode (jm_cod M_Ref_answerCame) 150 = .ok (.iload 4, 2) := dt_Ref_answerCame 93
theorem d_Ref_answerCame_152 : decode (jm_cod M_Ref_answerCame) 152 = .ok (.aload_n 0, 1) := dt_Ref_answerCame 94
theorem d_Ref_answerCame_153 : decode (jm_cod M_Ref_answerCame) 153 = .ok (.getfield 79, 3) := dt_Ref_answerCame 95
theorem d_Ref_answerCame_156 : decode (jm_cod M_Ref_answerCame) 156 = .ok (.iload 4, 2) := dt_Ref_answerCame 96
theorem d_Ref_answerCame_158 : decode (jm_cod M_Ref_answerCame) 158 = .ok (.iaload, 1) := dt_Ref_answerCame 97
theorem d_Ref_answerCame_159 : decode (jm_cod M_Ref_answerCame) 159 = .ok (.aload_n 0, 1) := dt_Ref_answerCame 98
theorem d_Ref_answerCame_160 : decode (jm_cod M_Ref_answerCame) 160 = .ok (.getfield 39, 3) := dt_Ref_answerCame 99
theorem d_Ref_answerCame_163 : decode (jm_cod M_Ref_answerCame) 163 = .ok (.iload 4, 2) := dt_Ref_answerCame 100
theorem d_Ref_answerCame_165 : decode (jm_cod M_Ref_answerCame) 165 = .ok (.iaload, 1) := dt_Ref_answerCame 101
theorem d_Ref_answerCame_166 : decode (jm_cod M_Ref_answerCame) 166 = .ok (.if_icmp .ne 10, 3) := dt_Ref_answerCame 102
theorem d_Ref_answerCame_169 : decode (jm_cod M_Ref_answerCame) 169 = .ok (.aload_n 0, 1) := dt_Ref_answerCame 103
theorem d_Ref_answerCame_170 : decode (jm_cod M_Ref_answerCame) 170 = .ok (.getfield 348, 3) := dt_Ref_answerCame 104
theorem d_Ref_answerCame_173 : decode (jm_cod M_Ref_answerCame) 173 = .ok (.goto 4, 3) := dt_Ref_answerCame 105
theorem d_Ref_answerCame_176 : decode (jm_cod M_Ref_answerCame) 176 = .ok (.iconst (-1), 1) := dt_Ref_answerCame 106
theorem d_Ref_answerCame_177 : decode (jm_cod M_Ref_answerCame) 177 = .ok (.iastore, 1) := dt_Ref_answerCame 107
theorem d_Ref_answerCame_178 : decode (jm_cod M_Ref_answerCame) 178 = .ok (.return_, 1) := dt_Ref_answerCame 108
def tab_Ref_take : List (Nat × Instr × Nat) := [(0, .aload_n 0, 1), (1, .getfield 115, 3), (4, .iload_n 1, 1), (5, .dup2, 1), (6, .iaload, 1), (7, .iconst 1, 1), (8, .isub, 1), (9, .iastore, 1), (10, .iconst 4, 1), (11, .iload_n 1, 1), (12, .imul, 1), (13, .istore_n 2, 1), (14, .iload_n 2, 1), (15, .iconst 4, 1), (16, .iload_n 1, 1), (17, .imul, 1), (18, .aload_n 0, 1), (19, .getfield 115, 3), (22, .iload_n 1, 1), (23, .iaload, 1), (24, .iadd, 1), (25, .if_icmp .ge 51, 3), (28, .aload_n 0, 1), (29, .getfield 106, 3), (32, .iload_n 2, 1), (33, .aload_n 0, 1), (34, .getfield 106, 3), (37, .iload_n 2, 1), (38, .iconst 1, 1), (39, .iadd, 1), (40, .laload, 1), (41, .lastore, 1), (42, .aload_n 0, 1), (43, .getfield 109, 3), (46, .iload_n 2, 1), (47, .aload_n 0, 1), (48, .getfield 109, 3), (51, .iload_n 2, 1), (52, .iconst 1, 1), (53, .iadd, 1), (54, .iaload, 1), (55, .iastore, 1), (56, .aload_n 0, 1), (57, .getfield 112, 3), (60, .iload_n 2, 1), (61, .aload_n 0, 1), (62, .getfield 112, 3), (65, .iload_n 2, 1), (66, .iconst 1, 1), (67, .iadd, 1), (68, .iaload, 1), (69, .iastore, 1), (70, .iinc 2 1, 3), (73, .goto (-59), 3), (76, .return_, 1)]
theorem dt_Ref_take (i : Nat) : decode (jm_cod M_Ref_take) (tab_Ref_take.getD i (0, .aload_n 0, 1)).1 = .ok ((tab_Ref_take.getD i (0, .aload_n 0, 1)).2.1, (tab_Ref_take.getD i (0, .aload_n 0, 1)).2.2) := j_tab (by decide +kernel) i
theorem d_Ref_take_0 : decode (jm_cod M_Ref_take) 0 = .ok (.aload_n 0, 1) := dt_Ref_take 0
theorem d_Ref_take_1 : decode (jm_cod M_Ref_take) 1 = .ok (.getfield 115, 3) := dt_Ref_take 1
theorem d_Ref_take_4 : decode (jm_cod M_Ref_take) 4 = .ok (.iload_n 1, 1) := dt_Ref_take 2
theorem d_Ref_take_5 : decode (jm_cod M_Ref_take) 5 = .ok (.dup2, 1) := dt_Ref_take 3
theorem d_Ref_take_6 : decode (jm_cod M_Ref_take) 6 = .ok (.iaload, 1) := dt_Ref_take 4
theorem d_Ref_take_7 : decode (jm_cod M_Ref_take) 7 = .ok (.iconst 1, 1) := dt_Ref_take 5
theorem d_Ref_take_8 : decode (jm_cod M_Ref_take) 8 = .ok (.isub, 1) := dt_Ref_take 6
theorem d_Ref_take_9 : decode (jm_cod M_Ref_take) 9 = .ok (.iastore, 1) := dt_Ref_take 7
theorem d_Ref_take_10 : decode (jm_cod M_Ref_take) 10 = .ok (.iconst 4, 1) := dt_Ref_take 8
theorem d_Ref_take_11 : decode (jm_cod M_Ref_take) 11 = .ok (.iload_n 1, 1) := dt_Ref_take 9
theorem d_Ref_take_12 : decode (jm_cod M_Ref_take) 12 = .ok (.imul, 1) := dt_Ref_take 10
theorem d_Ref_take_13 : decode (jm_cod M_Ref_take) 13 = .ok (.istore_n 2, 1) := dt_Ref_take 11
theorem d_Ref_take_14 : decode (jm_cod M_Ref_take) 14 = .ok (.iload_n 2, 1) := dt_Ref_take 12
theorem d_Ref_take_15 : decode (jm_cod M_Ref_take) 15 = .ok (.iconst 4, 1) := dt_Ref_take 13
theorem d_Ref_take_16 : decode (jm_cod M_Ref_take) 16 = .ok (.iload_n 1, 1) := dt_Ref_take 14
theorem d_Ref_take_17 : decode (jm_cod M_Ref_take) 17 = .ok (.imul, 1) := dt_Ref_take 15
theorem d_Ref_take_18 : decode (jm_cod M_Ref_take) 18 = .ok (.aload_n 0, 1) := dt_Ref_take 16
theorem d_Ref_take_19 : decode (jm_cod M_Ref_take) 19 = .ok (.getfield 115, 3) := dt_Ref_take 17
theorem d_Ref_take_22 : decode (jm_cod M_Ref_take) 22 = .ok (.iload_n 1, 1) := dt_Ref_take 18
theorem d_Ref_take_23 : decode (jm_cod M_Ref_take) 23 = .ok (.iaload, 1) := dt_Ref_take 19
theorem d_Ref_take_24 : decode (jm_cod M_Ref_take) 24 = .ok (.iadd, 1) := dt_Ref_take 20
theorem d_Ref_take_25 : decode (jm_cod M_Ref_take) 25 = .ok (.if_icmp .ge 51, 3) := dt_Ref_take 21
theorem d_Ref_take_28 : decode (jm_cod M_Ref_take) 28 = .ok (.aload_n 0, 1) := dt_Ref_take 22
theorem d_Ref_take_29 : decode (jm_cod M_Ref_take) 29 = .ok (.getfield 106, 3) := dt_Ref_take 23
theorem d_Ref_take_32 : decode (jm_cod M_Ref_take) 32 = .ok (.iload_n 2, 1) := dt_Ref_take 24
theorem d_Ref_take_33 : decode (jm_cod M_Ref_take) 33 = .ok (.aload_n 0, 1) := dt_Ref_take 25
theorem d_Ref_take_34 : decode (jm_cod M_Ref_take) 34 = .ok (.getfield 106, 3) := dt_Ref_take 26
theorem d_Ref_take_37 : decode (jm_cod M_Ref_take) 37 = .ok (.iload_n 2, 1) := dt_Ref_take 27
theorem d_Ref_take_38 : decode (jm_cod M_Ref_take) 38 = .ok (.iconst 1, 1) := dt_Ref_take 28
theorem d_Ref_take_39 : decode (jm_cod M_Ref_take) 39 = .ok (.iadd, 1) := dt_Ref_take 29
theorem d_Ref_take_40 : decode (jm_cod M_Ref_take) 40 = .ok (.laload, 1) := dt_Ref_take 30
theorem d_Ref_take_41 : decode (jm_cod M_Ref_take) 41 = .ok (.lastore, 1) := dt_Ref_take 31
theorem d_Ref_take_42 : decode (jm_cod M_Ref_take) 42 = .ok (.aload_n 0, 1) := dt_Ref_take 32
theorem d_Ref_take_43 : decode (jm_cod M_Ref_take) 43 = .ok (.getfield 109, 3) := dt_Ref_take 33
theorem d_Ref_take_46 : decode (jm_cod M_Ref_take) 46 = .ok (.iload_n 2, 1) := dt_Ref_take 34
theorem d_Ref_take_47 : decode (jm_cod M_Ref_take) 47 = .ok (.aload_n 0, 1) := dt_Ref_take 35
theorem d_Ref_take_48 : decode (jm_cod M_Ref_take) 48 = .ok (.getfield 109, 3) := dt_Ref_take 36
theorem d_Ref_take_51 : decode (jm_cod M_Ref_take) 51 = .ok (.iload_n 2, 1) := dt_Ref_take 37
theorem d_Ref_take_52 : decode (jm_cod M_Ref_take) 52 = .ok (.iconst 1, 1) := dt_Ref_take 38
theorem d_Ref_take_53 : decode (jm_cod M_Ref_take) 53 = .ok (.iadd, 1) := dt_Ref_take 39
theorem d_Ref_take_54 : decode (jm_cod M_Ref_take) 54 = .ok (.iaload, 1) := dt_Ref_take 40
theorem d_Ref_take_55 : decode (jm_cod M_Ref_take) 55 = .ok (.iastore, 1) := dt_Ref_take 41
theorem d_Ref_take_56 : decode (jm_cod M_Ref_take) 56 = .ok (.aload_n 0, 1) := dt_Ref_take 42
theorem d_Ref_take_57 : decode (jm_cod M_Ref_take) 57 = .ok (.getfield 112, 3) := dt_Ref_take 43
theorem d_Ref_take_60 : decode (jm_cod M_Ref_take) 60 = .ok (.iload_n 2, 1) := dt_Ref_take 44
theorem d_Ref_take_61 : decode (jm_cod M_Ref_take) 61 = .ok (.aload_n 0, 1) := dt_Ref_take 45
theorem d_Ref_take_62 : decode (jm_cod M_Ref_take) 62 = .ok (.getfield 112, 3) := dt_Ref_take 46
theorem d_Ref_take_65 : decode (jm_cod M_Ref_take) 65 = .ok (.iload_n 2, 1) := dt_Ref_take 47
theorem d_Ref_take_66 : decode (jm_cod M_Ref_take) 66 = .ok (.iconst 1, 1) := dt_Ref_take 48
theorem d_Ref_take_67 : decode (jm_cod M_Ref_take) 67 = .ok (.iadd, 1) := dt_Ref_take 49
theorem d_Ref_take_68 : decode (jm_cod M_Ref_take) 68 = .ok (.iaload, 1) := dt_Ref_take 50
theorem d_Ref_take_69 : decode (jm_cod M_Ref_take) 69 = .ok (.iastore, 1) := dt_Ref_take 51
theorem d_Ref_take_70 : decode (jm_cod M_Ref_take) 70 = .ok (.iinc 2 1, 3) := dt_Ref_take 52
theorem d_Ref_take_73 : decode (jm_cod M_Ref_take) 73 = .ok (.goto (-59), 3) := dt_Ref_take 53
theorem d_Ref_take_76 : decode (jm_cod M_Ref_take) 76 = .ok (.return_, 1) := dt_Ref_take 54
def tab_Ref_answered : List (Nat × Instr × Nat) := [(0, .iconst 0, 1), (1, .istore 4, 2), (3, .iload 4, 2), (5, .aload_n 0, 1), (6, .getfield 337, 3), (9, .if_icmp .ge 67, 3), (12, .aload_n 0, 1), (13, .getfield 36, 3), (16, .iload 4, 2), (18, .iaload, 1), (19, .iload_n 1, 1), (20, .if_icmp .ne 50, 3), (23, .aload_n 0, 1), (24, .getfield 48, 3), (27, .iload 4, 2), (29, .baload, 1), (30, .iload_n 3, 1), (31, .if_icmp .ne 39, 3), (34, .aload_n 0, 1), (35, .getfield 63, 3), (38, .iload 4, 2), (40, .iaload, 1), (41, .iload_n 2, 1), (42, .if_icmp .ne 28, 3), (45, .aload_n 0, 1), (46, .getfield 73, 3), (49, .iload 4, 2), (51, .iaload, 1), (52, .iconst (-1), 1), (53, .if_icmp .eq 17, 3), (56, .aload_n 0, 1), (57, .getfield 76, 3), (60, .iload 4, 2), (62, .iaload, 1), (63, .iconst (-1), 1), (64, .if_icmp .ne 6, 3), (67, .iload 4, 2), (69, .ireturn, 1), (70, .iinc 4 1, 3), (73, .goto (-70), 3), (76, .iconst (-1), 1), (77, .ireturn, 1)]
theorem dt_Ref_answered (i : Nat) : decode (jm_cod M_Ref_answered) (tab_Ref_answered.getD i (0, .iconst 0, 1)).1 = .ok ((tab_Ref_answered.getD i (0, .iconst 0, 1)).2.1, (tab_Ref_answered.getD i (0, .iconst 0, 1)).2.2) := j_tab (by decide +kernel) i
theorem d_Ref_answered_0 : decode (jm_cod M_Ref_answered) 0 = .ok (.iconst 0, 1) := dt_Ref_answered 0
theorem d_Ref_answered_1 : decode (jm_cod M_Ref_answered) 1 = .ok (.istore 4, 2) := dt_Ref_answered 1
theorem d_Ref_answered_3 : decode (jm_cod M_Ref_answered) 3 = .ok (.iload 4, 2) := dt_Ref_answered 2
theorem d_Ref_answered_5 : decode (jm_cod M_Ref_answered) 5 = .ok (.aload_n 0, 1) := dt_Ref_answered 3
theorem d_Ref_answered_6 : decode (jm_cod M_Ref_answered) 6 = .ok (.getfield 337, 3) := dt_Ref_answered 4
theorem d_Ref_answered_9 : decode (jm_cod M_Ref_answered) 9 = .ok (.if_icmp .ge 67, 3) := dt_Ref_answered 5
theorem d_Ref_answered_12 : decode (jm_cod M_Ref_answered) 12 = .ok (.aload_n 0, 1) := dt_Ref_answered 6
theorem d_Ref_answered_13 : decode (jm_cod M_Ref_answered) 13 = .ok (.getfield 36, 3) := dt_Ref_answered 7
theorem d_Ref_answered_16 : decode (jm_cod M_Ref_answered) 16 = .ok (.iload 4, 2) := dt_Ref_answered 8
theorem d_Ref_answered_18 : decode (jm_cod M_Ref_answered) 18 = .ok (.iaload, 1) := dt_Ref_answered 9
theorem d_Ref_answered_19 : decode (jm_cod M_Ref_answered) 19 = .ok (.iload_n 1, 1) := dt_Ref_answered 10
theorem d_Ref_answered_20 : decode (jm_cod M_Ref_answered) 20 = .ok (.if_icmp .ne 50, 3) := dt_Ref_answered 11
theorem d_Ref_answered_23 : decode (jm_cod M_Ref_answered) 23 = .ok (.aload_n 0, 1) := dt_Ref_answered 12
theorem d_Ref_answered_24 : decode (jm_cod M_Ref_answered) 24 = .ok (.getfield 48, 3) := dt_Ref_answered 13
theorem d_Ref_answered_27 : decode (jm_cod M_Ref_answered) 27 = .ok (.iload 4, 2) := dt_Ref_answered 14
theorem d_Ref_answered_29 : decode (jm_cod M_Ref_answered) 29 = .ok (.baload, 1) := dt_Ref_answered 15
theorem d_Ref_answered_30 : decode (jm_cod M_Ref_answered) 30 = .ok (.iload_n 3, 1) := dt_Ref_answered 16
theorem d_Ref_answered_31 : decode (jm_cod M_Ref_answered) 31 = .ok (.if_icmp .ne 39, 3) := dt_Ref_answered 17
theorem d_Ref_answered_34 : decode (jm_cod M_Ref_answered) 34 = .ok (.aload_n 0, 1) := dt_Ref_answered 18
theorem d_Ref_answered_35 : decode (jm_cod M_Ref_answered) 35 = .ok (.getfield 63, 3) := dt_Ref_answered 19
theorem d_Ref_answered_38 : decode (jm_cod M_Ref_answered) 38 = .ok (.iload 4, 2) := dt_Ref_answered 20
theorem d_Ref_answered_40 : decode (jm_cod M_Ref_answered) 40 = .ok (.iaload, 1) := dt_Ref_answered 21
theorem d_Ref_answered_41 : decode (jm_cod M_Ref_answered) 41 = .ok (.iload_n 2, 1) := dt_Ref_answered 22
theorem d_Ref_answered_42 : decode (jm_cod M_Ref_answered) 42 = .ok (.if_icmp .ne 28, 3) := dt_Ref_answered 23
theorem d_Ref_answered_45 : decode (jm_cod M_Ref_answered) 45 = .ok (.aload_n 0, 1) := dt_Ref_answered 24
theorem d_Ref_answered_46 : decode (jm_cod M_Ref_answered) 46 = .ok (.getfield 73, 3) := dt_Ref_answered 25
theorem d_Ref_answered_49 : decode (jm_cod M_Ref_answered) 49 = .ok (.iload 4, 2) := dt_Ref_answered 26
theorem d_Ref_answered_51 : decode (jm_cod M_Ref_answered) 51 = .ok (.iaload, 1) := dt_Ref_answered 27
theorem d_Ref_answered_52 : decode (jm_cod M_Ref_answered) 52 = .ok (.iconst (-1), 1) := dt_Ref_answered 28
theorem d_Ref_answered_53 : decode (jm_cod M_Ref_answered) 53 = .ok (.if_icmp .eq 17, 3) := dt_Ref_answered 29
theorem d_Ref_answered_56 : decode (jm_cod M_Ref_answered) 56 = .ok (.aload_n 0, 1) := dt_Ref_answered 30
theorem d_Ref_answered_57 : decode (jm_cod M_Ref_answered) 57 = .ok (.getfield 76, 3) := dt_Ref_answered 31
theorem d_Ref_answered_60 : decode (jm_cod M_Ref_answered) 60 = .ok (.iload 4, 2) := dt_Ref_answered 32
theorem d_Ref_answered_62 : decode (jm_cod M_Ref_answered) 62 = .ok (.iaload, 1) := dt_Ref_answered 33
theorem d_Ref_answered_63 : decode (jm_cod M_Ref_answered) 63 = .ok (.iconst (-1), 1) := dt_Ref_answered 34
theorem d_Ref_answered_64 : decode (jm_cod M_Ref_answered) 64 = .ok (.if_icmp .ne 6, 3) := dt_Ref_answered 35
theorem d_Ref_answered_67 : decode (jm_cod M_Ref_answered) 67 = .ok (.iload 4, 2) := dt_Ref_answered 36
theorem d_Ref_answered_69 : decode (jm_cod M_Ref_answered) 69 = .ok (.ireturn, 1) := dt_Ref_answered 37
theorem d_Ref_answered_70 : decode (jm_cod M_Ref_answered) 70 = .ok (.iinc 4 1, 3) := dt_Ref_answered 38
theorem d_Ref_answered_73 : decode (jm_cod M_Ref_answered) 73 = .ok (.goto (-70), 3) := dt_Ref_answered 39
theorem d_Ref_answered_76 : decode (jm_cod M_Ref_answered) 76 = .ok (.iconst (-1), 1) := dt_Ref_answered 40
theorem d_Ref_answered_77 : decode (jm_cod M_Ref_answered) 77 = .ok (.ireturn, 1) := dt_Ref_answered 41
def tab_Ref_goSlave : List (Nat × Instr × Nat) := [(0, .iconst 5, 1), (1, .iconst 4, 1), (2, .iload_n 1, 1), (3, .iadd, 1), (4, .imul, 1), (5, .iload_n 2, 1), (6, .iadd, 1), (7, .istore_n 3, 1), (8, .iload_n 2, 1), (9, .iconst 2, 1), (10, .if_icmp .ne 11, 3), (13, .aload_n 0, 1), (14, .iload_n 1, 1), (15, .invokevirtual 507, 3), (18, .goto 81, 3), (21, .iload_n 2, 1), (22, .iconst 4, 1), (23, .if_icmp .ne 11, 3), (26, .aload_n 0, 1), (27, .iload_n 1, 1), (28, .invokevirtual 510, 3), (31, .goto 68, 3), (34, .aload_n 0, 1), (35, .aload_n 0, 1), (36, .iconst 1, 1), (37, .iload_n 1, 1), (38, .iload_n 2, 1), (39, .invokevirtual 388, 3), (42, .invokevirtual 473, 3), (45, .iload_n 2, 1), (46, .ifCond .ne 17, 3), (49, .aload_n 0, 1), (50, .iload_n 1, 1), (51, .aload_n 0, 1), (52, .getfield 94, 3), (55, .iload_n 3, 1), (56, .laload, 1), (57, .invokevirtual 513, 3), (60, .goto 39, 3), (63, .iload_n 2, 1), (64, .iconst 1, 1), (65, .if_icmp .ne 23, 3), (68, .aload_n 0, 1), (69, .iload_n 1, 1), (70, .aload_n 0, 1), (71, .getfield 94, 3), (74, .iload_n 3, 1), (75, .laload, 1), (76, .aload_n 0, 1), (77, .getfield 97, 3), (80, .iload_n 3, 1), (81, .iaload, 1), (82, .invokevirtual 516, 3), (85, .goto 14, 3), (88, .aload_n 0, 1), (89, .iload_n 1, 1), (90, .aload_n 0, 1), (91, .getfield 94, 3), (94, .iload_n 3, 1), (95, .laload, 1), (96, .invokevirtual 520, 3), (99, .return_, 1)]
theorem dt_Ref_goSlave (i : Nat) : decode (jm_cod M_Ref_goSlave) (tab_Ref_goSlave.getD i (0, .iconst 5, 1)).1 = .ok ((tab_Ref_goSlave.getD i (0, .iconst 5, 1)).2.1, (tab_Ref_goSlave.getD i (0, .iconst 5, 1)).2.2) := j_tab (by decide +kernel) i
theorem d_Ref_goSlave_0 : decode (jm_cod M_Ref_goSlave) 0 = .ok (.iconst 5, 1) := dt_Ref_goSlave 0
theorem d_Ref_goSlave_1 : decode (jm_cod M_Ref_goSlave) 1 = .ok (.iconst 4, 1) := dt_Ref_goSlave 1
theorem d_Ref_goSlave_2 : decode (jm_cod M_Ref_goSlave) 2 = .ok (.iload_n 1, 1) := dt_Ref_goSlave 2
theorem d_Ref_goSlave_3 : decode (jm_cod M_Ref_goSlave) 3 = .ok (.iadd, 1) := dt_Ref_goSlave 3
theorem d_Ref_goSlave_4 : decode (jm_cod M_Ref_goSlave) 4 = .ok (.imul, 1) := dt_Ref_goSlave 4
theorem d_Ref_goSlave_5 : decode (jm_cod M_Ref_goSlave) 5 = .ok (.iload_n 2, 1) := dt_Ref_goSlave 5
theorem d_Ref_goSlave_6 : decode (jm_cod M_Ref_goSlave) 6 = .ok (.iadd, 1) := dt_Ref_goSlave 6
theorem d_Ref_goSlave_7 : decode (jm_cod M_Ref_goSlave) 7 = .ok (.istore_n 3, 1) := dt_Ref_goSlave 7
theorem d_Ref_goSlave_8 : decode (jm_cod M_Ref_goSlave) 8 = .ok (.iload_n 2, 1) := dt_Ref_goSlave 8
theorem d_Ref_goSlave_9 : decode (jm_cod M_Ref_goSlave) 9 = .ok (.iconst 2, 1) := dt_Ref_goSlave 9
theorem d_Ref_goSlave_10 : decode (jm_cod M_Ref_goSlave) 10 = .ok (.if_icmp .ne 11, 3) := dt_Ref_goSlave 10
theorem d_Ref_goSlave_13 : decode (jm_cod M_Ref_goSlave) 13 = .ok (.aload_n 0, 1) := dt_Ref_goSlave 11
theorem d_Ref_goSlave_14 : decode (jm_cod M_Ref_goSlave) 14 = .ok (.iload_n 1, 1) := dt_Ref_goSlave 12
theorem d_Ref_goSlave_15 : decode (jm_cod M_Ref_goSlave) 15 = .ok (.invokevirtual 507, 3) := dt_Ref_goSlave 13
theorem d_Ref_goSlave_18 : decode (jm_cod M_Ref_goSlave) 18 = .ok (.goto 81, 3) := dt_Ref_goSlave 14
theorem d_Ref_goSlave_21 : decode (jm_cod M_Ref_goSlave) 21 = .ok (.iload_n 2, 1) := dt_Ref_goSlave 15
theorem d_Ref_goSlave_22 : decode (jm_cod M_Ref_goSlave) 22 = .ok (.iconst 4, 1) := dt_Ref_goSlave 16
theorem d_Ref_goSlave_23 : decode (jm_cod M_Ref_goSlave) 23 = .ok (.if_icmp .ne 11, 3) := dt_Ref_goSlave 17
theorem d_Ref_goSlave_26 : decode (jm_cod M_Ref_goSlave) 26 = .ok (.aload_n 0, 1) := dt_Ref_goSlave 18
theorem d_Ref_goSlave_27 : decode (jm_cod M_Ref_goSlave) 27 = .ok (.iload_n 1, 1) := dt_Ref_goSlave 19
theorem d_Ref_goSlave_28 : decode (jm_cod M_Ref_goSlave) 28 = .ok (.invokevirtual 510, 3) := dt_Ref_goSlave 20
theorem d_Ref_goSlave_31 : decode (jm_cod M_Ref_goSlave) 31 = .ok (.goto 68, 3) := dt_Ref_goSlave 21
theorem d_Ref_goSlave_34 : decode (jm_cod M_Ref_goSlave) 34 = .ok (.aload_n 0, 1) := dt_Ref_goSlave 22
theorem d_Ref_goSlave_35 : decode (jm_cod M_Ref_goSlave) 35 = .ok (.aload_n 0, 1) := dt_Ref_goSlave 23
theorem d_Ref_goSlave_36 : decode (jm_cod M_Ref_goSlave) 36 = .ok (.iconst 1, 1) := dt_Ref_goSlave 24
theorem d_Ref_goSlave_37 : decode (jm_cod M_Ref_goSlave) 37 = .ok (.iload_n 1, 1) := dt_Ref_goSlave 25
theorem d_Ref_goSlave_38 : decode (jm_cod M_Ref_goSlave) 38 = .ok (.iload_n 2, 1) := dt_Ref_goSlave 26
theorem d_Ref_goSlave_39 : decode (jm_cod M_Ref_goSlave) 39 = .ok (.invokevirtual 388, 3) := dt_Ref_goSlave 27
theorem d_Ref_goSlave_42 : decode (jm_cod M_Ref_goSlave) 42 = .ok (.invokevirtual 473, 3) := dt_Ref_goSlave 28
theorem d_Ref_goSlave_45 : decode (jm_cod M_Ref_goSlave) 45 = .ok (.iload_n 2, 1) := dt_Ref_goSlave 29
theorem d_Ref_goSlave_46 : decode (jm_cod M_Ref_goSlave) 46 = .ok (.ifCond .ne 17, 3) := dt_Ref_goSlave 30
theorem d_Ref_goSlave_49 : decode (jm_cod M_Ref_goSlave) 49 = .ok (.aload_n 0, 1) := dt_Ref_goSlave 31
theorem d_Ref_goSlave_50 : decode (jm_cod M_Ref_goSlave) 50 = .ok (.iload_n 1, 1) := dt_Ref_goSlave 32
theorem d_Ref_goSlave_51 : decode (jm_cod M_Ref_goSlave) 51 = .ok (.aload_n 0, 1) := dt_Ref_goSlave 33
theorem d_Ref_goSlave_52 : decode (jm_cod M_Ref_goSlave) 52 = .ok (.getfield 94, 3) := dt_Ref_goSlave 34
theorem d_Ref_goSlave_55 : decode (jm_cod M_Ref_goSlave) 55 = .ok (.iload_n 3, 1) := dt_Ref_goSlave 35
theorem d_Ref_goSlave_56 : decode (jm_cod M_Ref_goSlave) 56 = .ok (.laload, 1) := dt_Ref_goSlave 36
theorem d_Ref_goSlave_57 : decode (jm_cod M_Ref_goSlave) 57 = .ok (.invokevirtual 513, 3) := dt_Ref_goSlave 37
theorem d_Ref_goSlave_60 : decode (jm_cod M_Ref_goSlave) 60 = .ok (.goto 39, 3) := dt_Ref_goSlave 38
theorem d_Ref_goSlave_63 : decode (jm_cod M_Ref_goSlave) 63 = .ok (.iload_n 2, 1) := dt_Ref_goSlave 39
theorem d_Ref_goSlave_64 : decode (jm_cod M_Ref_goSlave) 64 = .ok (.iconst 1, 1) := dt_Ref_goSlave 40
theorem d_Ref_goSlave_65 : decode (jm_cod M_Ref_goSlave) 65 = .ok (.if_icmp .ne 23, 3) := dt_Ref_goSlave 41
theorem d_Ref_goSlave_68 : decode (jm_cod M_Ref_goSlave) 68 = .ok (.aload_n 0, 1) := dt_Ref_goSlave 42
theorem d_Ref_goSlave_69 : decode (jm_cod M_Ref_goSlave) 69 = .ok (.iload_n 1, 1) := dt_Ref_goSlave 43
theorem d_Ref_goSlave_70 : decode (jm_cod M_Ref_goSlave) 70 = .ok (.aload_n 0, 1) := dt_Ref_goSlave 44
theorem d_Ref_goSlave_71 : decode (jm_cod M_Ref_goSlave) 71 = .ok (.getfield 94, 3) := dt_Ref_goSlave 45
theorem d_Ref_goSlave_74 : decode (jm_cod M_Ref_goSlave) 74 = .ok (.iload_n 3, 1) := dt_Ref_goSlave 46
theorem d_Ref_goSlave_75 : decode (jm_cod M_Ref_goSlave) 75 = .ok (.laload, 1) := dt_Ref_goSlave 47
theorem d_Ref_goSlave_76 : decode (jm_cod M_Ref_goSlave) 76 = .ok (.aload_n 0, 1) := dt_Ref_goSlave 48
theorem d_Ref_goSlave_77 : decode (jm_cod M_Ref_goSlave) 77 = .ok (.getfield 97, 3) := dt_Ref_goSlave 49
theorem d_Ref_goSlave_80 : decode (jm_cod M_Ref_goSlave) 80 = .ok (.iload_n 3, 1) := dt_Ref_goSlave 50
theorem d_Ref_goSlave_81 : decode (jm_cod M_Ref_goSlave) 81 = .ok (.iaload, 1) := dt_Ref_goSlave 51
theorem d_Ref_goSlave_82 : decode (jm_cod M_Ref_goSlave) 82 = .ok (.invokevirtual 516, 3) := dt_Ref_goSlave 52
theorem d_Ref_goSlave_85 : decode (jm_cod M_Ref_goSlave) 85 = .ok (.goto 14, 3) := dt_Ref_goSlave 53
theorem d_Ref_goSlave_88 : decode (jm_cod M_Ref_goSlave) 88 = .ok (.aload_n 0, 1) := dt_Ref_goSlave 54
theorem d_Ref_goSlave_89 : decode (jm_cod M_Ref_goSlave) 89 = .ok (.iload_n 1, 1) := dt_Ref_goSlave 55
theorem d_Ref_goSlave_90 : decode (jm_cod M_Ref_goSlave) 90 = .ok (.aload_n 0, 1) := dt_Ref_goSlave 56
theorem d_Ref_goSlave_91 : decode (jm_cod M_Ref_goSlave) 91 = .ok (.getfield 94, 3) := dt_Ref_goSlave 57
theorem d_Ref_goSlave_94 : decode (jm_cod M_Ref_goSlave) 94 = .ok (.iload_n 3, 1) := dt_Ref_goSlave 58
theorem d_Ref_goSlave_95 : decode (jm_cod M_Ref_goSlave) 95 = .ok (.laload, 1) := dt_Ref_goSlave 59
theorem d_Ref_goSlave_96 : decode (jm_cod M_Ref_goSlave) 96 = .ok (.invokevirtual 520, 3) := dt_Ref_goSlave 60
theorem d_Ref_goSlave_99 : decode (jm_cod M_Ref_goSlave) 99 = .ok (.return_, 1) := dt_Ref_goSlave 61
def tab_Ref_writeGoes : List (Nat × Instr × Nat) := [(0, .aload_n 0, 1), (1, .iconst 1, 1), (2, .iload_n 1, 1), (3, .iconst 2, 1), (4, .invokevirtual 388, 3), (7, .istore_n 2, 1), (8, .iconst 5, 1), (9, .iconst 4, 1), (10, .iload_n 1, 1), (11, .iadd, 1), (12, .imul, 1), (13, .istore_n 3, 1), (14, .aload_n 0, 1), (15, .iload_n 2, 1), (16, .lconst 0, 1), (17, .aload_n 0, 1), (18, .getfield 97, 3), (21, .iload_n 3, 1), (22, .iconst 2, 1), (23, .iadd, 1), (24, .iaload, 1), (25, .aload_n 0, 1), (26, .getfield 348, 3), (29, .invokevirtual 469, 3), (32, .iconst 0, 1), (33, .istore 4, 2), (35, .aload_n 0, 1), (36, .getfield 157, 3), (39, .iconst 4, 1), (40, .iload_n 1, 1), (41, .imul, 1), (42, .iload 4, 2), (44, .iadd, 1), (45, .iaload, 1), (46, .aload_n 0, 1), (47, .getfield 214, 3), (50, .iload_n 1, 1), (51, .iaload, 1), (52, .if_icmp .eq 9, 3), (55, .iinc 4 1, 3), (58, .goto (-23), 3), (61, .aload_n 0, 1), (62, .getfield 160, 3), (65, .aload_n 0, 1), (66, .getfield 214, 3), (69, .iload_n 1, 1), (70, .iaload, 1), (71, .iconst 0, 1), (72, .bastore, 1), (73, .aload_n 0, 1), (74, .getfield 154, 3), (77, .iload_n 1, 1), (78, .dup2, 1), (79, .iaload, 1), (80, .iconst 1, 1), (81, .isub, 1), (82, .iastore, 1), (83, .iload 4, 2), (85, .istore 5, 2), (87, .iload 5, 2), (89, .aload_n 0, 1), (90, .getfield 154, 3), (93, .iload_n 1, 1), (94, .iaload, 1), (95, .if_icmp .ge 33, 3), (98, .aload_n 0, 1), (99, .getfield 157, 3), (102, .iconst 4, 1), (103, .iload_n 1, 1), (104, .imul, 1), (105, .iload 5, 2), (107, .iadd, 1), (108, .aload_n 0, 1), (109, .getfield 157, 3), (112, .iconst 4, 1), (113, .iload_n 1, 1), (114, .imul, 1), (115, .iload 5, 2), (117, .iadd, 1), (118, .iconst 1, 1), (119, .iadd, 1), (120, .iaload, 1), (121, .iastore, 1), (122, .iinc 5 1, 3), (125, .goto (-38), 3), (128, .return_, 1)]
theorem dt_Ref_writeGoes (i : Nat) : decode (jm_cod M_Ref_writeGoes) (tab_Ref_writeGoes.getD i (0, .aload_n 0, 1)).1 = .ok ((tab_Ref_writeGoes.getD i (0, .aload_n 0, 1)).2.1, (tab_Ref_writeGoes.getD i (0, .aload_n 0, 1)).2.2) := j_tab (by decide +kernel) i
theorem d_Ref_writeGoes_0 : decode (jm_cod M_Ref_writeGoes) 0 = .ok (.aload_n 0, 1) := dt_Ref_writeGoes 0
theorem d_Ref_writeGoes_1 : decode (jm_cod M_Ref_writeGoes) 1 = .ok (.iconst 1, 1) := dt_Ref_writeGoes 1
theorem d_Ref_writeGoes_2 : decode (jm_cod M_Ref_writeGoes) 2 = .ok (.iload_n 1, 1) := dt_Ref_writeGoes 2
theorem d_Ref_writeGoes_3 : decode (jm_cod M_Ref_writeGoes) 3 = .ok (.iconst 2, 1) := dt_Ref_writeGoes 3
theorem d_Ref_writeGoes_4 : decode (jm_cod M_Ref_writeGoes) 4 = .ok (.invokevirtual 388, 3) := dt_Ref_writeGoes 4
theorem d_Ref_writeGoes_7 : decode (jm_cod M_Ref_writeGoes) 7 = .ok (.istore_n 2, 1) := dt_Ref_writeGoes 5
theorem d_Ref_writeGoes_8 : decode (jm_cod M_Ref_writeGoes) 8 = .ok (.iconst 5, 1) := dt_Ref_writeGoes 6
theorem d_Ref_writeGoes_9 : decode (jm_cod M_Ref_writeGoes) 9 = .ok (.iconst 4, 1) := dt_Ref_writeGoes 7
theorem d_Ref_writeGoes_10 : decode (jm_cod M_Ref_writeGoes) 10 = .ok (.iload_n 1, 1) := dt_Ref_writeGoes 8
theorem d_Ref_writeGoes_11 : decode (jm_cod M_Ref_writeGoes) 11 = .ok (.iadd, 1) := dt_Ref_writeGoes 9
theorem d_Ref_writeGoes_12 : decode (jm_cod M_Ref_writeGoes) 12 = .ok (.imul, 1) := dt_Ref_writeGoes 10
theorem d_Ref_writeGoes_13 : decode (jm_cod M_Ref_writeGoes) 13 = .ok (.istore_n 3, 1) := dt_Ref_writeGoes 11
theorem d_Ref_writeGoes_14 : decode (jm_cod M_Ref_writeGoes) 14 = .ok (.aload_n 0, 1) := dt_Ref_writeGoes 12
theorem d_Ref_writeGoes_15 : decode (jm_cod M_Ref_writeGoes) 15 = .ok (.iload_n 2, 1) := dt_Ref_writeGoes 13
theorem d_Ref_writeGoes_16 : decode (jm_cod M_Ref_writeGoes) 16 = .ok (.lconst 0, 1) := dt_Ref_writeGoes 14
theorem d_Ref_writeGoes_17 : decode (jm_cod M_Ref_writeGoes) 17 = .ok (.aload_n 0, 1) := dt_Ref_writeGoes 15
theorem d_Ref_writeGoes_18 : decode (jm_cod M_Ref_writeGoes) 18 = .ok (.getfield 97, 3) := dt_Ref_writeGoes 16
theorem d_Ref_writeGoes_21 : decode (jm_cod M_Ref_writeGoes) 21 = .ok (.iload_n 3, 1) := dt_Ref_writeGoes 17
theorem d_Ref_writeGoes_22 : decode (jm_cod M_Ref_writeGoes) 22 = .ok (.iconst 2, 1) := dt_Ref_writeGoes 18
theorem d_Ref_writeGoes_23 : decode (jm_cod M_Ref_writeGoes) 23 = .ok (.iadd, 1) := dt_Ref_writeGoes 19
theorem d_Ref_writeGoes_24 : decode (jm_cod M_Ref_writeGoes) 24 = .ok (.iaload, 1) := dt_Ref_writeGoes 20
theorem d_Ref_writeGoes_25 : decode (jm_cod M_Ref_writeGoes) 25 = .ok (.aload_n 0, 1) := dt_Ref_writeGoes 21
theorem d_Ref_writeGoes_26 : decode (jm_cod M_Ref_writeGoes) 26 = .ok (.getfield 348, 3) := dt_Ref_writeGoes 22
theorem d_Ref_writeGoes_29 : decode (jm_cod M_Ref_writeGoes) 29 = .ok (.invokevirtual 469, 3) := dt_Ref_writeGoes 23
theorem d_Ref_writeGoes_32 : decode (jm_cod M_Ref_writeGoes) 32 = .ok (.iconst 0, 1) := dt_Ref_writeGoes 24
theorem d_Ref_writeGoes_33 : decode (jm_cod M_Ref_writeGoes) 33 = .ok (.istore 4, 2) := dt_Ref_writeGoes 25
theorem d_Ref_writeGoes_35 : decode (jm_cod M_Ref_writeGoes) 35 = .ok (.aload_n 0, 1) := dt_Ref_writeGoes 26
theorem d_Ref_writeGoes_36 : decode (jm_cod M_Ref_writeGoes) 36 = .ok (.getfield 157, 3) := dt_Ref_writeGoes 27
theorem d_Ref_writeGoes_39 : decode (jm_cod M_Ref_writeGoes) 39 = .ok (.iconst 4, 1) := dt_Ref_writeGoes 28
theorem d_Ref_writeGoes_40 : decode (jm_cod M_Ref_writeGoes) 40 = .ok (.iload_n 1, 1) := dt_Ref_writeGoes 29
theorem d_Ref_writeGoes_41 : decode (jm_cod M_Ref_writeGoes) 41 = .ok (.imul, 1) := dt_Ref_writeGoes 30
theorem d_Ref_writeGoes_42 : decode (jm_cod M_Ref_writeGoes) 42 = .ok (.iload 4, 2) := dt_Ref_writeGoes 31
theorem d_Ref_writeGoes_44 : decode (jm_cod M_Ref_writeGoes) 44 = .ok (.iadd, 1) := dt_Ref_writeGoes 32
theorem d_Ref_writeGoes_45 : decode (jm_cod M_Ref_writeGoes) 45 = .ok (.iaload, 1) := dt_Ref_writeGoes 33
theorem d_Ref_writeGoes_46 : decode (jm_cod M_Ref_writeGoes) 46 = .ok (.aload_n 0, 1) := dt_Ref_writeGoes 34
theorem d_Ref_writeGoes_47 : decode (jm_cod M_Ref_writeGoes) 47 = .ok (.getfield 214, 3) := dt_Ref_writeGoes 35
theorem d_Ref_writeGoes_50 : decode (jm_cod M_Ref_writeGoes) 50 = .ok (.iload_n 1, 1) := dt_Ref_writeGoes 36
theorem d_Ref_writeGoes_51 : decode (jm_cod M_Ref_writeGoes) 51 = .ok (.iaload, 1) := dt_Ref_writeGoes 37
theorem d_Ref_writeGoes_52 : decode (jm_cod M_Ref_writeGoes) 52 = .ok (.if_icmp .eq 9, 3) := dt_Ref_writeGoes 38
theorem d_Ref_writeGoes_55 : decode (jm_cod M_Ref_writeGoes) 55 = .ok (.iinc 4 1, 3) := dt_Ref_writeGoes 39
theorem d_Ref_writeGoes_58 : decode (jm_cod M_Ref_writeGoes) 58 = .ok (.goto (-23), 3) := dt_Ref_writeGoes 40
theorem d_Ref_writeGoes_61 : decode (jm_cod M_Ref_writeGoes) 61 = .ok (.aload_n 0, 1) := dt_Ref_writeGoes 41
theorem d_Ref_writeGoes_62 : decode (jm_cod M_Ref_writeGoes) 62 = .ok (.getfield 160, 3) := dt_Ref_writeGoes 42
theorem d_Ref_writeGoes_65 : decode (jm_cod M_Ref_writeGoes) 65 = .ok (.aload_n 0, 1) := dt_Ref_writeGoes 43
theorem d_Ref_writeGoes_66 : decode (jm_cod M_Ref_writeGoes) 66 = .ok (.getfield 214, 3) := dt_Ref_writeGoes 44
theorem d_Ref_writeGoes_69 : decode (jm_cod M_Ref_writeGoes) 69 = .ok (.iload_n 1, 1) := dt_Ref_writeGoes 45
theorem d_Ref_writeGoes_70 : decode (jm_cod M_Ref_writeGoes) 70 = .ok (.iaload, 1) := dt_Ref_writeGoes 46
theorem d_Ref_writeGoes_71 : decode (jm_cod M_Ref_writeGoes) 71 = .ok (.iconst 0, 1) := dt_Ref_writeGoes 47
theorem d_Ref_writeGoes_72 : decode (jm_cod M_Ref_writeGoes) 72 = .ok (.bastore, 1) := dt_Ref_writeGoes 48
theorem d_Ref_writeGoes_73 : decode (jm_cod M_Ref_writeGoes) 73 = .ok (.aload_n 0, 1) := dt_Ref_writeGoes 49
theorem d_Ref_writeGoes_74 : decode (jm_cod M_Ref_writeGoes) 74 = .ok (.getfield 154, 3) := dt_Ref_writeGoes 50
theorem d_Ref_writeGoes_77 : decode (jm_cod M_Ref_writeGoes) 77 = .ok (.iload_n 1, 1) := dt_Ref_writeGoes 51
theorem d_Ref_writeGoes_78 : decode (jm_cod M_Ref_writeGoes) 78 = .ok (.dup2, 1) := dt_Ref_writeGoes 52
theorem d_Ref_writeGoes_79 : decode (jm_cod M_Ref_writeGoes) 79 = .ok (.iaload, 1) := dt_Ref_writeGoes 53
theorem d_Ref_writeGoes_80 : decode (jm_cod M_Ref_writeGoes) 80 = .ok (.iconst 1, 1) := dt_Ref_writeGoes 54
theorem d_Ref_writeGoes_81 : decode (jm_cod M_Ref_writeGoes) 81 = .ok (.isub, 1) := dt_Ref_writeGoes 55
theorem d_Ref_writeGoes_82 : decode (jm_cod M_Ref_writeGoes) 82 = .ok (.iastore, 1) := dt_Ref_writeGoes 56
theorem d_Ref_writeGoes_83 : decode (jm_cod M_Ref_writeGoes) 83 = .ok (.iload 4, 2) := dt_Ref_writeGoes 57
theorem d_Ref_writeGoes_85 : decode (jm_cod M_Ref_writeGoes) 85 = .ok (.istore 5, 2) := dt_Ref_writeGoes 58
theorem d_Ref_writeGoes_87 : decode (jm_cod M_Ref_writeGoes) 87 = .ok (.iload 5, 2) := dt_Ref_writeGoes 59
theorem d_Ref_writeGoes_89 : decode (jm_cod M_Ref_writeGoes) 89 = .ok (.aload_n 0, 1) := dt_Ref_writeGoes 60
theorem d_Ref_writeGoes_90 : decode (jm_cod M_Ref_writeGoes) 90 = .ok (.getfield 154, 3) := dt_Ref_writeGoes 61
theorem d_Ref_writeGoes_93 : decode (jm_cod M_Ref_writeGoes) 93 = .ok (.iload_n 1, 1) := dt_Ref_writeGoes 62
theorem d_Ref_writeGoes_94 : decode (jm_cod M_Ref_writeGoes) 94 = .ok (.iaload, 1) := dt_Ref_writeGoes 63
theorem d_Ref_writeGoes_95 : decode (jm_cod M_Ref_writeGoes) 95 = .ok (.if_icmp .ge 33, 3) := dt_Ref_writeGoes 64
theorem d_Ref_writeGoes_98 : decode (jm_cod M_Ref_writeGoes) 98 = .ok (.aload_n 0, 1) := dt_Ref_writeGoes 65
theorem d_Ref_writeGoes_99 : decode (jm_cod M_Ref_writeGoes) 99 = .ok (.getfield 157, 3) := dt_Ref_writeGoes 66
theorem d_Ref_writeGoes_102 : decode (jm_cod M_Ref_writeGoes) 102 = .ok (.iconst 4, 1) := dt_Ref_writeGoes 67
theorem d_Ref_writeGoes_103 : decode (jm_cod M_Ref_writeGoes) 103 = .ok (.iload_n 1, 1) := dt_Ref_writeGoes 68
theorem d_Ref_writeGoes_104 : decode (jm_cod M_Ref_writeGoes) 104 = .ok (.imul, 1) := dt_Ref_writeGoes 69
theorem d_Ref_writeGoes_105 : decode (jm_cod M_Ref_writeGoes) 105 = .ok (.iload 5, 2) := dt_Ref_writeGoes 70
theorem d_Ref_writeGoes_107 : decode (jm_cod M_Ref_writeGoes) 107 = .ok (.iadd, 1) := dt_Ref_writeGoes 71
theorem d_Ref_writeGoes_108 : decode (jm_cod M_Ref_writeGoes) 108 = .ok (.aload_n 0, 1) := dt_Ref_writeGoes 72
theorem d_Ref_writeGoes_109 : decode (jm_cod M_Ref_writeGoes) 109 = .ok (.getfield 157, 3) := dt_Ref_writeGoes 73
theorem d_Ref_writeGoes_112 : decode (jm_cod M_Ref_writeGoes) 112 = .ok (.iconst 4, 1) := dt_Ref_writeGoes 74
theorem d_Ref_writeGoes_113 : decode (jm_cod M_Ref_writeGoes) 113 = .ok (.iload_n 1, 1) := dt_Ref_writeGoes 75
theorem d_Ref_writeGoes_114 : decode (jm_cod M_Ref_writeGoes) 114 = .ok (.imul, 1) := dt_Ref_writeGoes 76
theorem d_Ref_writeGoes_115 : decode (jm_cod M_Ref_writeGoes) 115 = .ok (.iload 5, 2) := dt_Ref_writeGoes 77
theorem d_Ref_writeGoes_117 : decode (jm_cod M_Ref_writeGoes) 117 = .ok (.iadd, 1) := dt_Ref_writeGoes 78
theorem d_Ref_writeGoes_118 : decode (jm_cod M_Ref_writeGoes) 118 = .ok (.iconst 1, 1) := dt_Ref_writeGoes 79
theorem d_Ref_writeGoes_119 : decode (jm_cod M_Ref_writeGoes) 119 = .ok (.iadd, 1) := dt_Ref_writeGoes 80
theorem d_Ref_writeGoes_120 : decode (jm_cod M_Ref_writeGoes) 120 = .ok (.iaload, 1) := dt_Ref_writeGoes 81
theorem d_Ref_writeGoes_121 : decode (jm_cod M_Ref_writeGoes) 121 = .ok (.iastore, 1) := dt_Ref_writeGoes 82
theorem d_Ref_writeGoes_122 : decode (jm_cod M_Ref_writeGoes) 122 = .ok (.iinc 5 1, 3) := dt_Ref_writeGoes 83
theorem d_Ref_writeGoes_125 : decode (jm_cod M_Ref_writeGoes) 125 = .ok (.goto (-38), 3) := dt_Ref_writeGoes 84
theorem d_Ref_writeGoes_128 : decode (jm_cod M_Ref_writeGoes) 128 = .ok (.return_, 1) := dt_Ref_writeGoes 85
def tab_Ref_readGoes : List (Nat × Instr × Nat) := [(0, .iconst 5, 1), (1, .iconst 4, 1), (2, .iload_n 1, 1), (3, .iadd, 1), (4, .imul, 1), (5, .istore_n 2, 1), (6, .aload_n 0, 1), (7, .aload_n 0, 1), (8, .iconst 1, 1), (9, .iload_n 1, 1), (10, .iconst 4, 1), (11, .invokevirtual 388, 3), (14, .aload_n 0, 1), (15, .getfield 94, 3), (18, .iload_n 2, 1), (19, .iconst 4, 1), (20, .iadd, 1), (21, .laload, 1), (22, .aload_n 0, 1), (23, .getfield 97, 3), (26, .iload_n 2, 1), (27, .iconst 4, 1), (28, .iadd, 1), (29, .iaload, 1), (30, .aload_n 0, 1), (31, .getfield 348, 3), (34, .invokevirtual 469, 3), (37, .aload_n 0, 1), (38, .getfield 217, 3), (41, .iload_n 1, 1), (42, .iaload, 1), (43, .istore_n 3, 1), (44, .aload_n 0, 1), (45, .getfield 211, 3), (48, .iload_n 1, 1), (49, .aload_n 0, 1), (50, .getfield 199, 3), (53, .iload_n 3, 1), (54, .iaload, 1), (55, .iastore, 1), (56, .aload_n 0, 1), (57, .getfield 193, 3), (60, .iload_n 3, 1), (61, .dup2, 1), (62, .iaload, 1), (63, .iconst 1, 1), (64, .iadd, 1), (65, .iastore, 1), (66, .aload_n 0, 1), (67, .getfield 97, 3), (70, .iload_n 2, 1), (71, .iconst 4, 1), (72, .iadd, 1), (73, .iaload, 1), (74, .sipush 256, 3), (77, .iand, 1), (78, .ifCond .ne 4, 3), (81, .return_, 1), (82, .iconst 0, 1), (83, .istore 4, 2), (85, .aload_n 0, 1), (86, .getfield 184, 3), (89, .iconst 4, 1), (90, .iload_n 1, 1), (91, .imul, 1), (92, .iload 4, 2), (94, .iadd, 1), (95, .iaload, 1), (96, .iload_n 3, 1), (97, .if_icmp .eq 9, 3), (100, .iinc 4 1, 3), (103, .goto (-18), 3), (106, .aload_n 0, 1), (107, .getfield 187, 3), (110, .iload_n 3, 1), (111, .iconst 0, 1), (112, .bastore, 1), (113, .aload_n 0, 1), (114, .getfield 181, 3), (117, .iload_n 1, 1), (118, .dup2, 1), (119, .iaload, 1), (120, .iconst 1, 1), (121, .isub, 1), (122, .iastore, 1), (123, .iload 4, 2), (125, .istore 5, 2), (127, .iload 5, 2), (129, .aload_n 0, 1), (130, .getfield 181, 3), (133, .iload_n 1, 1), (134, .iaload, 1), (135, .if_icmp .ge 33, 3), (138, .aload_n 0, 1), (139, .getfield 184, 3), (142, .iconst 4, 1), (143, .iload_n 1, 1), (144, .imul, 1), (145, .iload 5, 2), (147, .iadd, 1), (148, .aload_n 0, 1), (149, .getfield 184, 3), (152, .iconst 4, 1), (153, .iload_n 1, 1), (154, .imul, 1), (155, .iload 5, 2), (157, .iadd, 1), (158, .iconst 1, 1), (159, .iadd, 1), (160, .iaload, 1), (161, .iastore, 1), (162, .iinc 5 1, 3), (165, .goto (-38), 3), (168, .return_, 1)]
theorem dt_Ref_readGoes (i : Nat) : decode (jm_cod M_Ref_readGoes) (tab_Ref_readGoes.getD i (0, .iconst 5, 1)).1 = .ok ((tab_Ref_readGoes.getD i (0, .iconst 5, 1)).2.1, (tab_Ref_readGoes.getD i (0, .iconst 5, 1)).2.2) := j_tab (by decide +kernel) i
theorem d_Ref_readGoes_0 : decode (jm_cod M_Ref_readGoes) 0 = .ok (.iconst 5, 1) := dt_Ref_readGoes 0
theorem d_Ref_readGoes_1 : decode (jm_cod M_Ref_readGoes) 1 = .ok (.iconst 4, 1) := dt_Ref_readGoes 1
theorem d_Ref_readGoes_2 : decode (jm_cod M_Ref_readGoes) 2 = .ok (.iload_n 1, 1) := dt_Ref_readGoes 2
theorem d_Ref_readGoes_3 : decode (jm_cod M_Ref_readGoes) 3 = .ok (.iadd, 1) := dt_Ref_readGoes 3
theorem d_Ref_readGoes_4 : decode (jm_cod M_Ref_readGoes) 4 = .ok (.imul, 1) := dt_Ref_readGoes 4
theorem d_Ref_readGoes_5 : decode (jm_cod M_Ref_readGoes) 5 = .ok (.istore_n 2, 1) := dt_Ref_readGoes 5
theorem d_Ref_readGoes_6 : decode (jm_cod M_Ref_readGoes) 6 = .ok (.aload_n 0, 1) := dt_Ref_readGoes 6
theorem d_Ref_readGoes_7 : decode (jm_cod M_Ref_readGoes) 7 = .ok (.aload_n 0, 1) := dt_Ref_readGoes 7
theorem d_Ref_readGoes_8 : decode (jm_cod M_Ref_readGoes) 8 = .ok (.iconst 1, 1) := dt_Ref_readGoes 8
theorem d_Ref_readGoes_9 : decode (jm_cod M_Ref_readGoes) 9 = .ok (.iload_n 1, 1) := dt_Ref_readGoes 9
theorem d_Ref_readGoes_10 : decode (jm_cod M_Ref_readGoes) 10 = .ok (.iconst 4, 1) := dt_Ref_readGoes 10
theorem d_Ref_readGoes_11 : decode (jm_cod M_Ref_readGoes) 11 = .ok (.invokevirtual 388, 3) := dt_Ref_readGoes 11
theorem d_Ref_readGoes_14 : decode (jm_cod M_Ref_readGoes) 14 = .ok (.aload_n 0, 1) := dt_Ref_readGoes 12
theorem d_Ref_readGoes_15 : decode (jm_cod M_Ref_readGoes) 15 = .ok (.getfield 94, 3) := dt_Ref_readGoes 13
theorem d_Ref_readGoes_18 : decode (jm_cod M_Ref_readGoes) 18 = .ok (.iload_n 2, 1) := dt_Ref_readGoes 14
theorem d_Ref_readGoes_19 : decode (jm_cod M_Ref_readGoes) 19 = .ok (.iconst 4, 1) := dt_Ref_readGoes 15
theorem d_Ref_readGoes_20 : decode (jm_cod M_Ref_readGoes) 20 = .ok (.iadd, 1) := dt_Ref_readGoes 16
theorem d_Ref_readGoes_21 : decode (jm_cod M_Ref_readGoes) 21 = .ok (.laload, 1) := dt_Ref_readGoes 17
theorem d_Ref_readGoes_22 : decode (jm_cod M_Ref_readGoes) 22 = .ok (.aload_n 0, 1) := dt_Ref_readGoes 18
theorem d_Ref_readGoes_23 : decode (jm_cod M_Ref_readGoes) 23 = .ok (.getfield 97, 3) := dt_Ref_readGoes 19
theorem d_Ref_readGoes_26 : decode (jm_cod M_Ref_readGoes) 26 = .ok (.iload_n 2, 1) := dt_Ref_readGoes 20
theorem d_Ref_readGoes_27 : decode (jm_cod M_Ref_readGoes) 27 = .ok (.iconst 4, 1) := dt_Ref_readGoes 21
theorem d_Ref_readGoes_28 : decode (jm_cod M_Ref_readGoes) 28 = .ok (.iadd, 1) := dt_Ref_readGoes 22
theorem d_Ref_readGoes_29 : decode (jm_cod M_Ref_readGoes) 29 = .ok (.iaload, 1) := dt_Ref_readGoes 23
theorem d_Ref_readGoes_30 : decode (jm_cod M_Ref_readGoes) 30 = .ok (.aload_n 0, 1) := dt_Ref_readGoes 24
theorem d_Ref_readGoes_31 : decode (jm_cod M_Ref_readGoes) 31 = .ok (.getfield 348, 3) := dt_Ref_readGoes 25
theorem d_Ref_readGoes_34 : decode (jm_cod M_Ref_readGoes) 34 = .ok (.invokevirtual 469, 3) := dt_Ref_readGoes 26
theorem d_Ref_readGoes_37 : decode (jm_cod M_Ref_readGoes) 37 = .ok (.aload_n 0, 1) := dt_Ref_readGoes 27
theorem d_Ref_readGoes_38 : decode (jm_cod M_Ref_readGoes) 38 = .ok (.getfield 217, 3) := dt_Ref_readGoes 28
theorem d_Ref_readGoes_41 : decode (jm_cod M_Ref_readGoes) 41 = .ok (.iload_n 1, 1) := dt_Ref_readGoes 29
theorem d_Ref_readGoes_42 : decode (jm_cod M_Ref_readGoes) 42 = .ok (.iaload, 1) := dt_Ref_readGoes 30
theorem d_Ref_readGoes_43 : decode (jm_cod M_Ref_readGoes) 43 = .ok (.istore_n 3, 1) := dt_Ref_readGoes 31
theorem d_Ref_readGoes_44 : decode (jm_cod M_Ref_readGoes) 44 = .ok (.aload_n 0, 1) := dt_Ref_readGoes 32
theorem d_Ref_readGoes_45 : decode (jm_cod M_Ref_readGoes) 45 = .ok (.getfield 211, 3) := dt_Ref_readGoes 33
theorem d_Ref_readGoes_48 : decode (jm_cod M_Ref_readGoes) 48 = .ok (.iload_n 1, 1) := dt_Ref_readGoes 34
theorem d_Ref_readGoes_49 : decode (jm_cod M_Ref_readGoes) 49 = .ok (.aload_n 0, 1) := dt_Ref_readGoes 35
theorem d_Ref_readGoes_50 : decode (jm_cod M_Ref_readGoes) 50 = .ok (.getfield 199, 3) := dt_Ref_readGoes 36
theorem d_Ref_readGoes_53 : decode (jm_cod M_Ref_readGoes) 53 = .ok (.iload_n 3, 1) := dt_Ref_readGoes 37
theorem d_Ref_readGoes_54 : decode (jm_cod M_Ref_readGoes) 54 = .ok (.iaload, 1) := dt_Ref_readGoes 38
theorem d_Ref_readGoes_55 : decode (jm_cod M_Ref_readGoes) 55 = .ok (.iastore, 1) := dt_Ref_readGoes 39
theorem d_Ref_readGoes_56 : decode (jm_cod M_Ref_readGoes) 56 = .ok (.aload_n 0, 1) := dt_Ref_readGoes 40
theorem d_Ref_readGoes_57 : decode (jm_cod M_Ref_readGoes) 57 = .ok (.getfield 193, 3) := dt_Ref_readGoes 41
theorem d_Ref_readGoes_60 : decode (jm_cod M_Ref_readGoes) 60 = .ok (.iload_n 3, 1) := dt_Ref_readGoes 42
theorem d_Ref_readGoes_61 : decode (jm_cod M_Ref_readGoes) 61 = .ok (.dup2, 1) := dt_Ref_readGoes 43
theorem d_Ref_readGoes_62 : decode (jm_cod M_Ref_readGoes) 62 = .ok (.iaload, 1) := dt_Ref_readGoes 44
theorem d_Ref_readGoes_63 : decode (jm_cod M_Ref_readGoes) 63 = .ok (.iconst 1, 1) := dt_Ref_readGoes 45
theorem d_Ref_readGoes_64 : decode (jm_cod M_Ref_readGoes) 64 = .ok (.iadd, 1) := dt_Ref_readGoes 46
theorem d_Ref_readGoes_65 : decode (jm_cod M_Ref_readGoes) 65 = .ok (.iastore, 1) := dt_Ref_readGoes 47
theorem d_Ref_readGoes_66 : decode (jm_cod M_Ref_readGoes) 66 = .ok (.aload_n 0, 1) := dt_Ref_readGoes 48
theorem d_Ref_readGoes_67 : decode (jm_cod M_Ref_readGoes) 67 = .ok (.getfield 97, 3) := dt_Ref_readGoes 49
theorem d_Ref_readGoes_70 : decode (jm_cod M_Ref_readGoes) 70 = .ok (.iload_n 2, 1) := dt_Ref_readGoes 50
theorem d_Ref_readGoes_71 : decode (jm_cod M_Ref_readGoes) 71 = .ok (.iconst 4, 1) := dt_Ref_readGoes 51
theorem d_Ref_readGoes_72 : decode (jm_cod M_Ref_readGoes) 72 = .ok (.iadd, 1) := dt_Ref_readGoes 52
theorem d_Ref_readGoes_73 : decode (jm_cod M_Ref_readGoes) 73 = .ok (.iaload, 1) := dt_Ref_readGoes 53
theorem d_Ref_readGoes_74 : decode (jm_cod M_Ref_readGoes) 74 = .ok (.sipush 256, 3) := dt_Ref_readGoes 54
theorem d_Ref_readGoes_77 : decode (jm_cod M_Ref_readGoes) 77 = .ok (.iand, 1) := dt_Ref_readGoes 55
theorem d_Ref_readGoes_78 : decode (jm_cod M_Ref_readGoes) 78 = .ok (.ifCond .ne 4, 3) := dt_Ref_readGoes 56
theorem d_Ref_readGoes_81 : decode (jm_cod M_Ref_readGoes) 81 = .ok (.return_, 1) := dt_Ref_readGoes 57
theorem d_Ref_readGoes_82 : decode (jm_cod M_Ref_readGoes) 82 = .ok (.iconst 0, 1) := dt_Ref_readGoes 58
theorem d_Ref_readGoes_83 : decode (jm_cod M_Ref_readGoes) 83 = .ok (.istore 4, 2) := dt_Ref_readGoes 59
theorem d_Ref_readGoes_85 : decode (jm_cod M_Ref_readGoes) 85 = .ok (.aload_n 0, 1) := dt_Ref_readGoes 60
theorem d_Ref_readGoes_86 : decode (jm_cod M_Ref_readGoes) 86 = .ok (.getfield 184, 3) := dt_Ref_readGoes 61
theorem d_Ref_readGoes_89 : decode (jm_cod M_Ref_readGoes) 89 = .ok (.iconst 4, 1) := dt_Ref_readGoes 62
theorem d_Ref_readGoes_90 : decode (jm_cod M_Ref_readGoes) 90 = .ok (.iload_n 1, 1) := dt_Ref_readGoes 63
theorem d_Ref_readGoes_91 : decode (jm_cod M_Ref_readGoes) 91 = .ok (.imul, 1) := dt_Ref_readGoes 64
theorem d_Ref_readGoes_92 : decode (jm_cod M_Ref_readGoes) 92 = .ok (.iload 4, 2) := dt_Ref_readGoes 65
theorem d_Ref_readGoes_94 : decode (jm_cod M_Ref_readGoes) 94 = .ok (.iadd, 1) := dt_Ref_readGoes 66
theorem d_Ref_readGoes_95 : decode (jm_cod M_Ref_readGoes) 95 = .ok (.iaload, 1) := dt_Ref_readGoes 67
theorem d_Ref_readGoes_96 : decode (jm_cod M_Ref_readGoes) 96 = .ok (.iload_n 3, 1) := dt_Ref_readGoes 68
theorem d_Ref_readGoes_97 : decode (jm_cod M_Ref_readGoes) 97 = .ok (.if_icmp .eq 9, 3) := dt_Ref_readGoes 69
theorem d_Ref_readGoes_100 : decode (jm_cod M_Ref_readGoes) 100 = .ok (.iinc 4 1, 3) := dt_Ref_readGoes 70
theorem d_Ref_readGoes_103 : decode (jm_cod M_Ref_readGoes) 103 = .ok (.goto (-18), 3) := dt_Ref_readGoes 71
theorem d_Ref_readGoes_106 : decode (jm_cod M_Ref_readGoes) 106 = .ok (.aload_n 0, 1) := dt_Ref_readGoes 72
theorem d_Ref_readGoes_107 : decode (jm_cod M_Ref_readGoes) 107 = .ok (.getfield 187, 3) := dt_Ref_readGoes 73
theorem d_Ref_readGoes_110 : decode (jm_cod M_Ref_readGoes) 110 = .ok (.iload_n 3, 1) := dt_Ref_readGoes 74
theorem d_Ref_readGoes_111 : decode (jm_cod M_Ref_readGoes) 111 = .ok (.iconst 0, 1) := dt_Ref_readGoes 75
theorem d_Ref_readGoes_112 : decode (jm_cod M_Ref_readGoes) 112 = .ok (.bastore, 1) := dt_Ref_readGoes 76
theorem d_Ref_readGoes_113 : decode (jm_cod M_Ref_readGoes) 113 = .ok (.aload_n 0, 1) := dt_Ref_readGoes 77
theorem d_Ref_readGoes_114 : decode (jm_cod M_Ref_readGoes) 114 = .ok (.getfield 181, 3) := dt_Ref_readGoes 78
theorem d_Ref_readGoes_117 : decode (jm_cod M_Ref_readGoes) 117 = .ok (.iload_n 1, 1) := dt_Ref_readGoes 79
theorem d_Ref_readGoes_118 : decode (jm_cod M_Ref_readGoes) 118 = .ok (.dup2, 1) := dt_Ref_readGoes 80
theorem d_Ref_readGoes_119 : decode (jm_cod M_Ref_readGoes) 119 = .ok (.iaload, 1) := dt_Ref_readGoes 81
theorem d_Ref_readGoes_120 : decode (jm_cod M_Ref_readGoes) 120 = .ok (.iconst 1, 1) := dt_Ref_readGoes 82
theorem d_Ref_readGoes_121 : decode (jm_cod M_Ref_readGoes) 121 = .ok (.isub, 1) := dt_Ref_readGoes 83
theorem d_Ref_readGoes_122 : decode (jm_cod M_Ref_readGoes) 122 = .ok (.iastore, 1) := dt_Ref_readGoes 84
theorem d_Ref_readGoes_123 : decode (jm_cod M_Ref_readGoes) 123 = .ok (.iload 4, 2) := dt_Ref_readGoes 85
theorem d_Ref_readGoes_125 : decode (jm_cod M_Ref_readGoes) 125 = .ok (.istore 5, 2) := dt_Ref_readGoes 86
theorem d_Ref_readGoes_127 : decode (jm_cod M_Ref_readGoes) 127 = .ok (.iload 5, 2) := dt_Ref_readGoes 87
theorem d_Ref_readGoes_129 : decode (jm_cod M_Ref_readGoes) 129 = .ok (.aload_n 0, 1) := dt_Ref_readGoes 88
theorem d_Ref_readGoes_130 : decode (jm_cod M_Ref_readGoes) 130 = .ok (.getfield 181, 3) := dt_Ref_readGoes 89
theorem d_Ref_readGoes_133 : decode (jm_cod M_Ref_readGoes) 133 = .ok (.iload_n 1, 1) := dt_Ref_readGoes 90
theorem d_Ref_readGoes_134 : decode (jm_cod M_Ref_readGoes) 134 = .ok (.iaload, 1) := dt_Ref_readGoes 91
theorem d_Ref_readGoes_135 : decode (jm_cod M_Ref_readGoes) 135 = .ok (.if_icmp .ge 33, 3) := dt_Ref_readGoes 92
theorem d_Ref_readGoes_138 : decode (jm_cod M_Ref_readGoes) 138 = .ok (.aload_n 0, 1) := dt_Ref_readGoes 93
theorem d_Ref_readGoes_139 : decode (jm_cod M_Ref_readGoes) 139 = .ok (.getfield 184, 3) := dt_Ref_readGoes 94
theorem d_Ref_readGoes_142 : decode (jm_cod M_Ref_readGoes) 142 = .ok (.iconst 4, 1) := dt_Ref_readGoes 95
theorem d_Ref_readGoes_143 : decode (jm_cod M_Ref_readGoes) 143 = .ok (.iload_n 1, 1) := dt_Ref_readGoes 96
theorem d_Ref_readGoes_144 : decode (jm_cod M_Ref_readGoes) 144 = .ok (.imul, 1) := dt_Ref_readGoes 97
theorem d_Ref_readGoes_145 : decode (jm_cod M_Ref_readGoes) 145 = .ok (.iload 5, 2) := dt_Ref_readGoes 98
theorem d_Ref_readGoes_147 : decode (jm_cod M_Ref_readGoes) 147 = .ok (.iadd, 1) := dt_Ref_readGoes 99
theorem d_Ref_readGoes_148 : decode (jm_cod M_Ref_readGoes) 148 = .ok (.aload_n 0, 1) := dt_Ref_readGoes 100
theorem d_Ref_readGoes_149 : decode (jm_cod M_Ref_readGoes) 149 = .ok (.getfield 184, 3) := dt_Ref_readGoes 101
theorem d_Ref_readGoes_152 : decode (jm_cod M_Ref_readGoes) 152 = .ok (.iconst 4, 1) := dt_Ref_readGoes 102
theorem d_Ref_readGoes_153 : decode (jm_cod M_Ref_readGoes) 153 = .ok (.iload_n 1, 1) := dt_Ref_readGoes 103
theorem d_Ref_readGoes_154 : decode (jm_cod M_Ref_readGoes) 154 = .ok (.imul, 1) := dt_Ref_readGoes 104
theorem d_Ref_readGoes_155 : decode (jm_cod M_Ref_readGoes) 155 = .ok (.iload 5, 2) := dt_Ref_readGoes 105
theorem d_Ref_readGoes_157 : decode (jm_cod M_Ref_readGoes) 157 = .ok (.iadd, 1) := dt_Ref_readGoes 106
theorem d_Ref_readGoes_158 : decode (jm_cod M_Ref_readGoes) 158 = .ok (.iconst 1, 1) := dt_Ref_readGoes 107
theorem d_Ref_readGoes_159 : decode (jm_cod M_Ref_readGoes) 159 = .ok (.iadd, 1) := dt_Ref_readGoes 108
theorem d_Ref_readGoes_160 : decode (jm_cod M_Ref_readGoes) 160 = .ok (.iaload, 1) := dt_Ref_readGoes 109
theorem d_Ref_readGoes_161 : decode (jm_cod M_Ref_readGoes) 161 = .ok (.iastore, 1) := dt_Ref_readGoes 110
theorem d_Ref_readGoes_162 : decode (jm_cod M_Ref_readGoes) 162 = .ok (.iinc 5 1, 3) := dt_Ref_readGoes 111
theorem d_Ref_readGoes_165 : decode (jm_cod M_Ref_readGoes) 165 = .ok (.goto (-38), 3) := dt_Ref_readGoes 112
theorem d_Ref_readGoes_168 : decode (jm_cod M_Ref_readGoes) 168 = .ok (.return_, 1) := dt_Ref_readGoes 113
def tab_Ref_writeCame : List (Nat × Instr × Nat) := [(0, .aload_n 0, 1), (1, .getfield 160, 3), (4, .iload_n 1, 1), (5, .invokestatic 480, 3), (8, .istore 4, 2), (10, .aload_n 0, 1), (11, .getfield 160, 3), (14, .iload 4, 2), (16, .iconst 1, 1), (17, .bastore, 1), (18, .aload_n 0, 1), (19, .getfield 157, 3), (22, .iconst 4, 1), (23, .iload_n 1, 1), (24, .imul, 1), (25, .aload_n 0, 1), (26, .getfield 154, 3), (29, .iload_n 1, 1), (30, .iaload, 1), (31, .iadd, 1), (32, .iload 4, 2), (34, .iastore, 1), (35, .aload_n 0, 1), (36, .getfield 154, 3), (39, .iload_n 1, 1), (40, .dup2, 1), (41, .iaload, 1), (42, .iconst 1, 1), (43, .iadd, 1), (44, .iastore, 1), (45, .aload_n 0, 1), (46, .getfield 163, 3), (49, .iload 4, 2), (51, .lload_n 2, 1), (52, .lastore, 1), (53, .aload_n 0, 1), (54, .getfield 166, 3), (57, .iload 4, 2), (59, .iconst 0, 1), (60, .iastore, 1), (61, .aload_n 0, 1), (62, .getfield 169, 3), (65, .iload 4, 2), (67, .iconst (-1), 1), (68, .iastore, 1), (69, .return_, 1)]
theorem dt_Ref_writeCame (i : Nat) : decode (jm_cod M_Ref_writeCame) (tab_Ref_writeCame.getD i (0, .aload_n 0, 1)).1 = .ok ((tab_Ref_writeCame.getD i (0, .aload_n 0, 1)).2.1, (tab_Ref_writeCame.getD i (0, .aload_n 0, 1)).2.2) := j_tab (by decide +kernel) i
theorem d_Ref_writeCame_0 : decode (jm_cod M_Ref_writeCame) 0 = .ok (.aload_n 0, 1) := dt_Ref_writeCame 0
theorem d_Ref_writeCame_1 : decode (jm_cod M_Ref_writeCame) 1 = .ok (.getfield 160, 3) := dt_Ref_writeCame 1
theorem d_Ref_writeCame_4 : decode (jm_cod M_Ref_writeCame) 4 = .ok (.iload_n 1, 1) := dt_Ref_writeCame 2
theorem d_Ref_writeCame_5 : decode (jm_cod M_Ref_writeCame) 5 = .ok (.invokestatic 480, 3) := dt_Ref_writeCame 3
theorem d_Ref_writeCame_8 : decode (jm_cod M_Ref_writeCame) 8 = .ok (.istore 4, 2) := dt_Ref_writeCame 4
theorem d_Ref_writeCame_10 : decode (jm_cod M_Ref_writeCame) 10 = .ok (.aload_n 0, 1) := dt_Ref_writeCame 5
theorem d_Ref_writeCame_11 : decode (jm_cod M_Ref_writeCame) 11 = .ok (.getfield 160, 3) := dt_Ref_writeCame 6
theorem d_Ref_writeCame_14 : decode (jm_cod M_Ref_writeCame) 14 = .ok (.iload 4, 2) := dt_Ref_writeCame 7
theorem d_Ref_writeCame_16 : decode (jm_cod M_Ref_writeCame) 16 = .ok (.iconst 1, 1) := dt_Ref_writeCame 8
theorem d_Ref_writeCame_17 : decode (jm_cod M_Ref_writeCame) 17 = .ok (.bastore, 1) := dt_Ref_writeCame 9
theorem d_Ref_writeCame_18 : decode (jm_cod M_Ref_writeCame) 18 = .ok (.aload_n 0, 1) := dt_Ref_writeCame 10
theorem d_Ref_writeCame_19 : decode (jm_cod M_Ref_writeCame) 19 = .ok (.getfield 157, 3) := dt_Ref_writeCame 11
theorem d_Ref_writeCame_22 : decode (jm_cod M_Ref_writeCame) 22 = .ok (.iconst 4, 1) := dt_Ref_writeCame 12
theorem d_Ref_writeCame_23 : decode (jm_cod M_Ref_writeCame) 23 = .ok (.iload_n 1, 1) := dt_Ref_writeCame 13
theorem d_Ref_writeCame_24 : decode (jm_cod M_Ref_writeCame) 24 = .ok (.imul, 1) := dt_Ref_writeCame 14
theorem d_Ref_writeCame_25 : decode (jm_cod M_Ref_writeCame) 25 = .ok (.aload_n 0, 1) := dt_Ref_writeCame 15
theorem d_Ref_writeCame_26 : decode (jm_cod M_Ref_writeCame) 26 = .ok (.getfield 154, 3) := dt_Ref_writeCame 16
theorem d_Ref_writeCame_29 : decode (jm_cod M_Ref_writeCame) 29 = .ok (.iload_n 1, 1) := dt_Ref_writeCame 17
theorem d_Ref_writeCame_30 : decode (jm_cod M_Ref_writeCame) 30 = .ok (.iaload, 1) := dt_Ref_writeCame 18
theorem d_Ref_writeCame_31 : decode (jm_cod M_Ref_writeCame) 31 = .ok (.iadd, 1) := dt_Ref_writeCame 19
theorem d_Ref_writeCame_32 : decode (jm_cod M_Ref_writeCame) 32 = .ok (.iload 4, 2) := dt_Ref_writeCame 20
theorem d_Ref_writeCame_34 : decode (jm_cod M_Ref_writeCame) 34 = .ok (.iastore, 1) := dt_Ref_writeCame 21
theorem d_Ref_writeCame_35 : decode (jm_cod M_Ref_writeCame) 35 = .ok (.aload_n 0, 1) := dt_Ref_writeCame 22
theorem d_Ref_writeCame_36 : decode (jm_cod M_Ref_writeCame) 36 = .ok (.getfield 154, 3) := dt_Ref_writeCame 23
theorem d_Ref_writeCame_39 : decode (jm_cod M_Ref_writeCame) 39 = .ok (.iload_n 1, 1) := dt_Ref_writeCame 24
theorem d_Ref_writeCame_40 : decode (jm_cod M_Ref_writeCame) 40 = .ok (.dup2, 1) := dt_Ref_writeCame 25
theorem d_Ref_writeCame_41 : decode (jm_cod M_Ref_writeCame) 41 = .ok (.iaload, 1) := dt_Ref_writeCame 26
theorem d_Ref_writeCame_42 : decode (jm_cod M_Ref_writeCame) 42 = .ok (.iconst 1, 1) := dt_Ref_writeCame 27
theorem d_Ref_writeCame_43 : decode (jm_cod M_Ref_writeCame) 43 = .ok (.iadd, 1) := dt_Ref_writeCame 28
theorem d_Ref_writeCame_44 : decode (jm_cod M_Ref_writeCame) 44 = .ok (.iastore, 1) := dt_Ref_writeCame 29
theorem d_Ref_writeCame_45 : decode (jm_cod M_Ref_writeCame) 45 = .ok (.aload_n 0, 1) := dt_Ref_writeCame 30
theorem d_Ref_writeCame_46 : decode (jm_cod M_Ref_writeCame) 46 = .ok (.getfield 163, 3) := dt_Ref_writeCame 31
theorem d_Ref_writeCame_49 : decode (jm_cod M_Ref_writeCame) 49 = .ok (.iload 4, 2) := dt_Ref_writeCame 32
theorem d_Ref_writeCame_51 : decode (jm_cod M_Ref_writeCame) 51 = .ok (.lload_n 2, 1) := dt_Ref_writeCame 33
theorem d_Ref_writeCame_52 : decode (jm_cod M_Ref_writeCame) 52 = .ok (.lastore, 1) := dt_Ref_writeCame 34
theorem d_Ref_writeCame_53 : decode (jm_cod M_Ref_writeCame) 53 = .ok (.aload_n 0, 1) := dt_Ref_writeCame 35
theorem d_Ref_writeCame_54 : decode (jm_cod M_Ref_writeCame) 54 = .ok (.getfield 166, 3) := dt_Ref_writeCame 36
theorem d_Ref_writeCame_57 : decode (jm_cod M_Ref_writeCame) 57 = .ok (.iload 4, 2) := dt_Ref_writeCame 37
theorem d_Ref_writeCame_59 : decode (jm_cod M_Ref_writeCame) 59 = .ok (.iconst 0, 1) := dt_Ref_writeCame 38
theorem d_Ref_writeCame_60 : decode (jm_cod M_Ref_writeCame) 60 = .ok (.iastore, 1) := dt_Ref_writeCame 39
theorem d_Ref_writeCame_61 : decode (jm_cod M_Ref_writeCame) 61 = .ok (.aload_n 0, 1) := dt_Ref_writeCame 40
theorem d_Ref_writeCame_62 : decode (jm_cod M_Ref_writeCame) 62 = .ok (.getfield 169, 3) := dt_Ref_writeCame 41
theorem d_Ref_writeCame_65 : decode (jm_cod M_Ref_writeCame) 65 = .ok (.iload 4, 2) := dt_Ref_writeCame 42
theorem d_Ref_writeCame_67 : decode (jm_cod M_Ref_writeCame) 67 = .ok (.iconst (-1), 1) := dt_Ref_writeCame 43
theorem d_Ref_writeCame_68 : decode (jm_cod M_Ref_writeCame) 68 = .ok (.iastore, 1) := dt_Ref_writeCame 44
theorem d_Ref_writeCame_69 : decode (jm_cod M_Ref_writeCame) 69 = .ok (.return_, 1) := dt_Ref_writeCame 45
def tab_Ref_freePlace : List (Nat × Instr × Nat) := [(0, .iconst 4, 1), (1, .iload_n 1, 1), (2, .imul, 1), (3, .istore_n 2, 1), (4, .aload_n 0, 1), (5, .iload_n 2, 1), (6, .baload, 1), (7, .ifCond .eq 9, 3), (10, .iinc 2 1, 3), (13, .goto (-9), 3), (16, .iload_n 2, 1), (17, .ireturn, 1)]
theorem dt_Ref_freePlace (i : Nat) : decode (jm_cod M_Ref_freePlace) (tab_Ref_freePlace.getD i (0, .iconst 4, 1)).1 = .ok ((tab_Ref_freePlace.getD i (0, .iconst 4, 1)).2.1, (tab_Ref_freePlace.getD i (0, .iconst 4, 1)).2.2) := j_tab (by decide +kernel) i
theorem d_Ref_freePlace_0 : decode (jm_cod M_Ref_freePlace) 0 = .ok (.iconst 4, 1) := dt_Ref_freePlace 0
theorem d_Ref_freePlace_1 : decode (jm_cod M_Ref_freePlace) 1 = .ok (.iload_n 1, 1) := dt_Ref_freePlace 1
theorem d_Ref_freePlace_2 : decode (jm_cod M_Ref_freePlace) 2 = .ok (.imul, 1) := dt_Ref_freePlace 2
theorem d_Ref_freePlace_3 : decode (jm_cod M_Ref_freePlace) 3 = .ok (.istore_n 2, 1) := dt_Ref_freePlace 3
theorem d_Ref_freePlace_4 : decode (jm_cod M_Ref_freePlace) 4 = .ok (.aload_n 0, 1) := dt_Ref_freePlace 4
theorem d_Ref_freePlace_5 : decode (jm_cod M_Ref_freePlace) 5 = .ok (.iload_n 2, 1) := dt_Ref_freePlace 5
theorem d_Ref_freePlace_6 : decode (jm_cod M_Ref_freePlace) 6 = .ok (.baload, 1) := dt_Ref_freePlace 6
theorem d_Ref_freePlace_7 : decode (jm_cod M_Ref_freePlace) 7 = .ok (.ifCond .eq 9, 3) := dt_Ref_freePlace 7
theorem d_Ref_freePlace_10 : decode (jm_cod M_Ref_freePlace) 10 = .ok (.iinc 2 1, 3) := dt_Ref_freePlace 8
theorem d_Ref_freePlace_13 : decode (jm_cod M_Ref_freePlace) 13 = .ok (.goto (-9), 3) := dt_Ref_freePlace 9
theorem d_Ref_freePlace_16 : decode (jm_cod M_Ref_freePlace) 16 = .ok (.iload_n 2, 1) := dt_Ref_freePlace 10
theorem d_Ref_freePlace_17 : decode (jm_cod M_Ref_freePlace) 17 = .ok (.ireturn, 1) := dt_Ref_freePlace 11
def tab_Ref_beatCame : List (Nat × Instr × Nat) := [(0, .iconst 0, 1), (1, .istore 5, 2), (3, .aload_n 0, 1), (4, .getfield 166, 3), (7, .aload_n 0, 1), (8, .getfield 157, 3), (11, .iconst 4, 1), (12, .iload_n 1, 1), (13, .imul, 1), (14, .iload 5, 2), (16, .iadd, 1), (17, .iaload, 1), (18, .iaload, 1), (19, .aload_n 0, 1), (20, .getfield 163, 3), (23, .aload_n 0, 1), (24, .getfield 157, 3), (27, .iconst 4, 1), (28, .iload_n 1, 1), (29, .imul, 1), (30, .iload 5, 2), (32, .iadd, 1), (33, .iaload, 1), (34, .laload, 1), (35, .invokestatic 321, 3), (38, .if_icmp .ne 9, 3), (41, .iinc 5 1, 3), (44, .goto (-41), 3), (47, .aload_n 0, 1), (48, .getfield 157, 3), (51, .iconst 4, 1), (52, .iload_n 1, 1), (53, .imul, 1), (54, .iload 5, 2), (56, .iadd, 1), (57, .iaload, 1), (58, .istore 6, 2), (60, .aload_n 0, 1), (61, .getfield 175, 3), (64, .bipush 16, 2), (66, .iload 6, 2), (68, .imul, 1), (69, .aload_n 0, 1), (70, .getfield 166, 3), (73, .iload 6, 2), (75, .iaload, 1), (76, .iadd, 1), (77, .lload_n 2, 1), (78, .lastore, 1), (79, .aload_n 0, 1), (80, .getfield 178, 3), (83, .bipush 16, 2), (85, .iload 6, 2), (87, .imul, 1), (88, .aload_n 0, 1), (89, .getfield 166, 3), (92, .iload 6, 2), (94, .iaload, 1), (95, .iadd, 1), (96, .iload 4, 2), (98, .sipush 255, 3), (101, .iand, 1), (102, .iastore, 1), (103, .aload_n 0, 1), (104, .getfield 166, 3), (107, .iload 6, 2), (109, .dup2, 1), (110, .iaload, 1), (111, .iconst 1, 1), (112, .iadd, 1), (113, .iastore, 1), (114, .aload_n 0, 1), (115, .getfield 166, 3), (118, .iload 6, 2), (120, .iaload, 1), (121, .aload_n 0, 1), (122, .getfield 163, 3), (125, .iload 6, 2), (127, .laload, 1), (128, .invokestatic 321, 3), (131, .if_icmp .ne 21, 3), (134, .aload_n 0, 1), (135, .getfield 169, 3), (138, .iload 6, 2), (140, .aload_n 0, 1), (141, .getfield 348, 3), (144, .iastore, 1), (145, .aload_n 0, 1), (146, .iload_n 1, 1), (147, .iload 6, 2), (149, .invokevirtual 484, 3), (152, .return_, 1)]
theorem dt_Ref_beatCame (i : Nat) : decode (jm_cod M_Ref_beatCame) (tab_Ref_beatCame.getD i (0, .iconst 0, 1)).1 = .ok ((tab_Ref_beatCame.getD i (0, .iconst 0, 1)).2.1, (tab_Ref_beatCame.getD i (0, .iconst 0, 1)).2.2) := j_tab (by decide +kernel) i
theorem d_Ref_beatCame_0 : decode (jm_cod M_Ref_beatCame) 0 = .ok (.iconst 0, 1) := dt_Ref_beatCame 0
theorem d_Ref_beatCame_1 : decode (jm_cod M_Ref_beatCame) 1 = .ok (.istore 5, 2) := dt_Ref_beatCame 1
theorem d_Ref_beatCame_3 : decode (jm_cod M_Ref_beatCame) 3 = .ok (.aload_n 0, 1) := dt_Ref_beatCame 2
theorem d_Ref_beatCame_4 : decode (jm_cod M_Ref_beatCame) 4 = .ok (.getfield 166, 3) := dt_Ref_beatCame 3
theorem d_Ref_beatCame_7 : decode (jm_cod M_Ref_beatCame) 7 = .ok (.aload_n 0, 1) := dt_Ref_beatCame 4
theorem d_Ref_beatCame_8 : decode (jm_cod M_Ref_beatCame) 8 = .ok (.getfield 157, 3) := dt_Ref_beatCame 5
theorem d_Ref_beatCame_11 : decode (jm_cod M_Ref_beatCame) 11 = .ok (.iconst 4, 1) := dt_Ref_beatCame 6
theorem d_Ref_beatCame_12 : decode (jm_cod M_Ref_beatCame) 12 = .ok (.iload_n 1, 1) := dt_Ref_beatCame 7
theorem d_Ref_beatCame_13 : decode (jm_cod M_Ref_beatCame) 13 = .ok (.imul, 1) := dt_Ref_beatCame 8
theorem d_Ref_beatCame_14 : decode (jm_cod M_Ref_beatCame) 14 = .ok (.iload 5, 2) := dt_Ref_beatCame 9
theorem d_Ref_beatCame_16 : decode (jm_cod M_Ref_beatCame) 16 = .ok (.iadd, 1) := dt_Ref_beatCame 10
theorem d_Ref_beatCame_17 : decode (jm_cod M_Ref_beatCame) 17 = .ok (.iaload, 1) := dt_Ref_beatCame 11
theorem d_Ref_beatCame_18 : decode (jm_cod M_Ref_beatCame) 18 = .ok (.iaload, 1) := dt_Ref_beatCame 12
theorem d_Ref_beatCame_19 : decode (jm_cod M_Ref_beatCame) 19 = .ok (.aload_n 0, 1) := dt_Ref_beatCame 13
theorem d_Ref_beatCame_20 : decode (jm_cod M_Ref_beatCame) 20 = .ok (.getfield 163, 3) := dt_Ref_beatCame 14
theorem d_Ref_beatCame_23 : decode (jm_cod M_Ref_beatCame) 23 = .ok (.aload_n 0, 1) := dt_Ref_beatCame 15
theorem d_Ref_beatCame_24 : decode (jm_cod M_Ref_beatCame) 24 = .ok (.getfield 157, 3) := dt_Ref_beatCame 16
theorem d_Ref_beatCame_27 : decode (jm_cod M_Ref_beatCame) 27 = .ok (.iconst 4, 1) := dt_Ref_beatCame 17
theorem d_Ref_beatCame_28 : decode (jm_cod M_Ref_beatCame) 28 = .ok (.iload_n 1, 1) := dt_Ref_beatCame 18
theorem d_Ref_beatCame_29 : decode (jm_cod M_Ref_beatCame) 29 = .ok (.imul, 1) := dt_Ref_beatCame 19
theorem d_Ref_beatCame_30 : decode (jm_cod M_Ref_beatCame) 30 = .ok (.iload 5, 2) := dt_Ref_beatCame 20
theorem d_Ref_beatCame_32 : decode (jm_cod M_Ref_beatCame) 32 = .ok (.iadd, 1) := dt_Ref_beatCame 21
theorem d_Ref_beatCame_33 : decode (jm_cod M_Ref_beatCame) 33 = .ok (.iaload, 1) := dt_Ref_beatCame 22
theorem d_Ref_beatCame_34 : decode (jm_cod M_Ref_beatCame) 34 = .ok (.laload, 1) := dt_Ref_beatCame 23
theorem d_Ref_beatCame_35 : decode (jm_cod M_Ref_beatCame) 35 = .ok (.invokestatic 321, 3) := dt_Ref_beatCame 24
theorem d_Ref_beatCame_38 : decode (jm_cod M_Ref_beatCame) 38 = .ok (.if_icmp .ne 9, 3) := dt_Ref_beatCame 25
theorem d_Ref_beatCame_41 : decode (jm_cod M_Ref_beatCame) 41 = .ok (.iinc 5 1, 3) := dt_Ref_beatCame 26
theorem d_Ref_beatCame_44 : decode (jm_cod M_Ref_beatCame) 44 = .ok (.goto (-41), 3) := dt_Ref_beatCame 27
theorem d_Ref_beatCame_47 : decode (jm_cod M_Ref_beatCame) 47 = .ok (.aload_n 0, 1) := dt_Ref_beatCame 28
theorem d_Ref_beatCame_48 : decode (jm_cod M_Ref_beatCame) 48 = .ok (.getfield 157, 3) := dt_Ref_beatCame 29
theorem d_Ref_beatCame_51 : decode (jm_cod M_Ref_beatCame) 51 = .ok (.iconst 4, 1) := dt_Ref_beatCame 30
theorem d_Ref_beatCame_52 : decode (jm_cod M_Ref_beatCame) 52 = .ok (.iload_n 1, 1) := dt_Ref_beatCame 31
theorem d_Ref_beatCame_53 : decode (jm_cod M_Ref_beatCame) 53 = .ok (.imul, 1) := dt_Ref_beatCame 32
theorem d_Ref_beatCame_54 : decode (jm_cod M_Ref_beatCame) 54 = .ok (.iload 5, 2) := dt_Ref_beatCame 33
theorem d_Ref_beatCame_56 : decode (jm_cod M_Ref_beatCame) 56 = .ok (.iadd, 1) := dt_Ref_beatCame 34
theorem d_Ref_beatCame_57 : decode (jm_cod M_Ref_beatCame) 57 = .ok (.iaload, 1) := dt_Ref_beatCame 35
theorem d_Ref_beatCame_58 : decode (jm_cod M_Ref_beatCame) 58 = .ok (.istore 6, 2) := dt_Ref_beatCame 36
theorem d_Ref_beatCame_60 : decode (jm_cod M_Ref_beatCame) 60 = .ok (.aload_n 0, 1) := dt_Ref_beatCame 37
theorem d_Ref_beatCame_61 : decode (jm_cod M_Ref_beatCame) 61 = .ok (.getfield 175, 3) := dt_Ref_beatCame 38
theorem d_Ref_beatCame_64 : decode (jm_cod M_Ref_beatCame) 64 = .ok (.bipush 16, 2) := dt_Ref_beatCame 39
theorem d_Ref_beatCame_66 : decode (jm_cod M_Ref_beatCame) 66 = .ok (.iload 6, 2) := dt_Ref_beatCame 40
theorem d_Ref_beatCame_68 : decode (jm_cod M_Ref_beatCame) 68 = .ok (.imul, 1) := dt_Ref_beatCame 41
theorem d_Ref_beatCame_69 : decode (jm_cod M_Ref_beatCame) 69 = .ok (.aload_n 0, 1) := dt_Ref_beatCame 42
theorem d_Ref_beatCame_70 : decode (jm_cod M_Ref_beatCame) 70 = .ok (.getfield 166, 3) := dt_Ref_beatCame 43
theorem d_Ref_beatCame_73 : decode (jm_cod M_Ref_beatCame) 73 = .ok (.iload 6, 2) := dt_Ref_beatCame 44
theorem d_Ref_beatCame_75 : decode (jm_cod M_Ref_beatCame) 75 = .ok (.iaload, 1) := dt_Ref_beatCame 45
theorem d_Ref_beatCame_76 : decode (jm_cod M_Ref_beatCame) 76 = .ok (.iadd, 1) := dt_Ref_beatCame 46
theorem d_Ref_beatCame_77 : decode (jm_cod M_Ref_beatCame) 77 = .ok (.lload_n 2, 1) := dt_Ref_beatCame 47
theorem d_Ref_beatCame_78 : decode (jm_cod M_Ref_beatCame) 78 = .ok (.lastore, 1) := dt_Ref_beatCame 48
theorem d_Ref_beatCame_79 : decode (jm_cod M_Ref_beatCame) 79 = .ok (.aload_n 0, 1) := dt_Ref_beatCame 49
theorem d_Ref_beatCame_80 : decode (jm_cod M_Ref_beatCame) 80 = .ok (.getfield 178, 3) := dt_Ref_beatCame 50
theorem d_Ref_beatCame_83 : decode (jm_cod M_Ref_beatCame) 83 = .ok (.bipush 16, 2) := dt_Ref_beatCame 51
theorem d_Ref_beatCame_85 : decode (jm_cod M_Ref_beatCame) 85 = .ok (.iload 6, 2) := dt_Ref_beatCame 52
theorem d_Ref_beatCame_87 : decode (jm_cod M_Ref_beatCame) 87 = .ok (.imul, 1) := dt_Ref_beatCame 53
theorem d_Ref_beatCame_88 : decode (jm_cod M_Ref_beatCame) 88 = .ok (.aload_n 0, 1) := dt_Ref_beatCame 54
theorem d_Ref_beatCame_89 : decode (jm_cod M_Ref_beatCame) 89 = .ok (.getfield 166, 3) := dt_Ref_beatCame 55
theorem d_Ref_beatCame_92 : decode (jm_cod M_Ref_beatCame) 92 = .ok (.iload 6, 2) := dt_Ref_beatCame 56
theorem d_Ref_beatCame_94 : decode (jm_cod M_Ref_beatCame) 94 = .ok (.iaload, 1) := dt_Ref_beatCame 57
theorem d_Ref_beatCame_95 : decode (jm_cod M_Ref_beatCame) 95 = .ok (.iadd, 1) := dt_Ref_beatCame 58
theorem d_Ref_beatCame_96 : decode (jm_cod M_Ref_beatCame) 96 = .ok (.iload 4, 2) := dt_Ref_beatCame 59
theorem d_Ref_beatCame_98 : decode (jm_cod M_Ref_beatCame) 98 = .ok (.sipush 255, 3) := dt_Ref_beatCame 60
theorem d_Ref_beatCame_101 : decode (jm_cod M_Ref_beatCame) 101 = .ok (.iand, 1) := dt_Ref_beatCame 61
theorem d_Ref_beatCame_102 : decode (jm_cod M_Ref_beatCame) 102 = .ok (.iastore, 1) := dt_Ref_beatCame 62
theorem d_Ref_beatCame_103 : decode (jm_cod M_Ref_beatCame) 103 = .ok (.aload_n 0, 1) := dt_Ref_beatCame 63
theorem d_Ref_beatCame_104 : decode (jm_cod M_Ref_beatCame) 104 = .ok (.getfield 166, 3) := dt_Ref_beatCame 64
theorem d_Ref_beatCame_107 : decode (jm_cod M_Ref_beatCame) 107 = .ok (.iload 6, 2) := dt_Ref_beatCame 65
theorem d_Ref_beatCame_109 : decode (jm_cod M_Ref_beatCame) 109 = .ok (.dup2, 1) := dt_Ref_beatCame 66
theorem d_Ref_beatCame_110 : decode (jm_cod M_Ref_beatCame) 110 = .ok (.iaload, 1) := dt_Ref_beatCame 67
theorem d_Ref_beatCame_111 : decode (jm_cod M_Ref_beatCame) 111 = .ok (.iconst 1, 1) := dt_Ref_beatCame 68
theorem d_Ref_beatCame_112 : decode (jm_cod M_Ref_beatCame) 112 = .ok (.iadd, 1) := dt_Ref_beatCame 69
theorem d_Ref_beatCame_113 : decode (jm_cod M_Ref_beatCame) 113 = .ok (.iastore, 1) := dt_Ref_beatCame 70
theorem d_Ref_beatCame_114 : decode (jm_cod M_Ref_beatCame) 114 = .ok (.aload_n 0, 1) := dt_Ref_beatCame 71
theorem d_Ref_beatCame_115 : decode (jm_cod M_Ref_beatCame) 115 = .ok (.getfield 166, 3) := dt_Ref_beatCame 72
theorem d_Ref_beatCame_118 : decode (jm_cod M_Ref_beatCame) 118 = .ok (.iload 6, 2) := dt_Ref_beatCame 73
theorem d_Ref_beatCame_120 : decode (jm_cod M_Ref_beatCame) 120 = .ok (.iaload, 1) := dt_Ref_beatCame 74
theorem d_Ref_beatCame_121 : decode (jm_cod M_Ref_beatCame) 121 = .ok (.aload_n 0, 1) := dt_Ref_beatCame 75
theorem d_Ref_beatCame_122 : decode (jm_cod M_Ref_beatCame) 122 = .ok (.getfield 163, 3) := dt_Ref_beatCame 76
theorem d_Ref_beatCame_125 : decode (jm_cod M_Ref_beatCame) 125 = .ok (.iload 6, 2) := dt_Ref_beatCame 77
theorem d_Ref_beatCame_127 : decode (jm_cod M_Ref_beatCame) 127 = .ok (.laload, 1) := dt_Ref_beatCame 78
theorem d_Ref_beatCame_128 : decode (jm_cod M_Ref_beatCame) 128 = .ok (.invokestatic 321, 3) := dt_Ref_beatCame 79
theorem d_Ref_beatCame_131 : decode (jm_cod M_Ref_beatCame) 131 = .ok (.if_icmp .ne 21, 3) := dt_Ref_beatCame 80
theorem d_Ref_beatCame_134 : decode (jm_cod M_Ref_beatCame) 134 = .ok (.aload_n 0, 1) := dt_Ref_beatCame 81
theorem d_Ref_beatCame_135 : decode (jm_cod M_Ref_beatCame) 135 = .ok (.getfield 169, 3) := dt_Ref_beatCame 82
theorem d_Ref_beatCame_138 : decode (jm_cod M_Ref_beatCame) 138 = .ok (.iload 6, 2) := dt_Ref_beatCame 83
theorem d_Ref_beatCame_140 : decode (jm_cod M_Ref_beatCame) 140 = .ok (.aload_n 0, 1) := dt_Ref_beatCame 84
theorem d_Ref_beatCame_141 : decode (jm_cod M_Ref_beatCame) 141 = .ok (.getfield 348, 3) := dt_Ref_beatCame 85
theorem d_Ref_beatCame_144 : decode (jm_cod M_Ref_beatCame) 144 = .ok (.iastore, 1) := dt_Ref_beatCame 86
theorem d_Ref_beatCame_145 : decode (jm_cod M_Ref_beatCame) 145 = .ok (.aload_n 0, 1) := dt_Ref_beatCame 87
theorem d_Ref_beatCame_146 : decode (jm_cod M_Ref_beatCame) 146 = .ok (.iload_n 1, 1) := dt_Ref_beatCame 88
theorem d_Ref_beatCame_147 : decode (jm_cod M_Ref_beatCame) 147 = .ok (.iload 6, 2) := dt_Ref_beatCame 89
theorem d_Ref_beatCame_149 : decode (jm_cod M_Ref_beatCame) 149 = .ok (.invokevirtual 484, 3) := dt_Ref_beatCame 90
theorem d_Ref_beatCame_152 : decode (jm_cod M_Ref_beatCame) 152 = .ok (.return_, 1) := dt_Ref_beatCame 91
def tab_Ref_doWrite : List (Nat × Instr × Nat) := [(0, .aload_n 0, 1), (1, .getfield 163, 3), (4, .iload_n 2, 1), (5, .laload, 1), (6, .lstore_n 3, 1), (7, .lload_n 3, 1), (8, .invokestatic 321, 3), (11, .istore 5, 2), (13, .iconst 0, 1), (14, .istore 6, 2), (16, .iconst 0, 1), (17, .istore 7, 2), (19, .iload 7, 2), (21, .iload 5, 2), (23, .if_icmp .ge 74, 3), (26, .iconst 0, 1), (27, .istore 8, 2), (29, .iload 8, 2), (31, .bipush 8, 2), (33, .if_icmp .ge 58, 3), (36, .iload 6, 2), (38, .ifCond .ne 40, 3), (41, .aload_n 0, 1), (42, .getfield 178, 3), (45, .bipush 16, 2), (47, .iload_n 2, 1), (48, .imul, 1), (49, .iload 7, 2), (51, .iadd, 1), (52, .iaload, 1), (53, .iload 8, 2), (55, .ishr, 1), (56, .iconst 1, 1), (57, .iand, 1), (58, .iconst 1, 1), (59, .if_icmp .ne 23, 3), (62, .aload_n 0, 1), (63, .getfield 33, 3), (66, .lload_n 3, 1), (67, .iload 7, 2), (69, .iload 8, 2), (71, .invokestatic 487, 3), (74, .baload, 1), (75, .ifCond .eq 7, 3), (78, .iconst 1, 1), (79, .goto 4, 3), (82, .iconst 0, 1), (83, .istore 6, 2), (85, .iinc 8 1, 3), (88, .goto (-59), 3), (91, .iinc 7 1, 3), (94, .goto (-75), 3), (97, .bipush 64, 2), (99, .iload_n 1, 1), (100, .imul, 1), (101, .lload_n 3, 1), (102, .invokestatic 396, 3), (105, .iadd, 1), (106, .istore 7, 2), (108, .aload_n 0, 1), (109, .getfield 220, 3), (112, .iload 7, 2), (114, .iaload, 1), (115, .lload_n 3, 1), (116, .invokestatic 314, 3), (119, .if_icmp .ne 24, 3), (122, .aload_n 0, 1), (123, .getfield 223, 3), (126, .iload 7, 2), (128, .iaload, 1), (129, .iload 5, 2), (131, .lload_n 3, 1), (132, .invokestatic 318, 3), (135, .imul, 1), (136, .if_icmp .ne 7, 3), (139, .iconst 1, 1), (140, .goto 4, 3), (143, .iconst 0, 1), (144, .istore 8, 2), (146, .lload_n 3, 1), (147, .invokestatic 329, 3), (150, .ifCond .eq 11, 3), (153, .aload_n 0, 1), (154, .getfield 220, 3), (157, .iload 7, 2), (159, .iconst (-1), 1), (160, .iastore, 1), (161, .aload_n 0, 1), (162, .getfield 172, 3), (165, .iload_n 2, 1), (166, .iload 6, 2), (168, .ifCond .eq 7, 3), (171, .iconst 2, 1), (172, .goto 20, 3), (175, .lload_n 3, 1), (176, .invokestatic 329, 3), (179, .ifCond .eq 12, 3), (182, .iload 8, 2), (184, .ifCond .eq 7, 3), (187, .iconst 1, 1), (188, .goto 4, 3), (191, .iconst 0, 1), (192, .iastore, 1), (193, .iload 6, 2), (195, .ifCond .ne 15, 3), (198, .lload_n 3, 1), (199, .invokestatic 329, 3), (202, .ifCond .eq 9, 3), (205, .iload 8, 2), (207, .ifCond .ne 4, 3), (210, .return_, 1), (211, .iconst 0, 1), (212, .istore 9, 2), (214, .iload 9, 2), (216, .iload 5, 2), (218, .if_icmp .ge 93, 3), (221, .iconst 0, 1), (222, .istore 10, 2), (224, .iload 10, 2), (226, .bipush 8, 2), (228, .if_icmp .ge 77, 3), (231, .aload_n 0, 1), (232, .getfield 178, 3), (235, .bipush 16, 2), (237, .iload_n 2, 1), (238, .imul, 1), (239, .iload 9, 2), (241, .iadd, 1), (242, .iaload, 1), (243, .iload 10, 2), (245, .ishr, 1), (246, .iconst 1, 1), (247, .iand, 1), (248, .iconst 1, 1), (249, .if_icmp .ne 50, 3), (252, .lload_n 3, 1), (253, .iload 9, 2), (255, .iload 10, 2), (257, .invokestatic 487, 3), (260, .istore 11, 2), (262, .aload_n 0, 1), (263, .getfield 30, 3), (266, .iload 11, 2), (268, .aload_n 0, 1), (269, .getfield 175, 3), (272, .bipush 16, 2), (274, .iload_n 2, 1), (275, .imul, 1), (276, .iload 9, 2), (278, .iadd, 1), (279, .laload, 1), (280, .bipush 8, 2), (282, .iload 10, 2), (284, .imul, 1), (285, .lshr, 1), (286, .l2i, 1), (287, .sipush 255, 3), (290, .iand, 1), (291, .iastore, 1), (292, .aload_n 0, 1), (293, .iload_n 1, 1), (294, .iload 11, 2), (296, .invokevirtual 491, 3), (299, .iinc 10 1, 3), (302, .goto (-78), 3), (305, .iinc 9 1, 3), (308, .goto (-94), 3), (311, .return_, 1)]
theorem dt_Ref_doWrite (i : Nat) : decode (jm_cod M_Ref_doWrite) (tab_Ref_doWrite.getD i (0, .aload_n 0, 1)).1 = .ok ((tab_Ref_doWrite.getD i (0, .aload_n 0, 1)).2.1, (tab_Ref_doWrite.getD i (0, .aload_n 0, 1)).2.2) := j_tab (by decide +kernel) i
theorem d_Ref_doWrite_0 : decode (jm_cod M_Ref_doWrite) 0 = .ok (.aload_n 0, 1) := dt_Ref_doWrite 0
theorem d_Ref_doWrite_1 : decode (jm_cod M_Ref_doWrite) 1 = .ok (.getfield 163, 3) := dt_Ref_doWrite 1
theorem d_Ref_doWrite_4 : decode (jm_cod M_Ref_doWrite) 4 = .ok (.iload_n 2, 1) := dt_Ref_doWrite 2
theorem d_Ref_doWrite_5 : decode (jm_cod M_Ref_doWrite) 5 = .ok (.laload, 1) := dt_Ref_doWrite 3
theorem d_Ref_doWrite_6 : decode (jm_cod M_Ref_doWrite) 6 = .ok (.lstore_n 3, 1) := dt_Ref_doWrite 4
theorem d_Ref_doWrite_7 : decode (jm_cod M_Ref_doWrite) 7 = .ok (.lload_n 3, 1) := dt_Ref_doWrite 5
theorem d_Ref_doWrite_8 : decode (jm_cod M_Ref_doWrite) 8 = .ok (.invokestatic 321, 3) := dt_Ref_doWrite 6
theorem d_Ref_doWrite_11 : decode (jm_cod M_Ref_doWrite) 11 = .ok (.istore 5, 2) := dt_Ref_doWrite 7
theorem d_Ref_doWrite_13 : decode (jm_cod M_Ref_doWrite) 13 = .ok (.iconst 0, 1) := dt_Ref_doWrite 8
theorem d_Ref_doWrite_14 : decode (jm_cod M_Ref_doWrite) 14 = .ok (.istore 6, 2) := dt_Ref_doWrite 9
theorem d_Ref_doWrite_16 : decode (jm_cod M_Ref_doWrite) 16 = .ok (.iconst 0, 1) := dt_Ref_doWrite 10
theorem d_Ref_doWrite_17 : decode (jm_cod M_Ref_doWrite) 17 = .ok (.istore 7, 2) := dt_Ref_doWrite 11
theorem d_Ref_doWrite_19 : decode (jm_cod M_Ref_doWrite) 19 = .ok (.iload 7, 2) := dt_Ref_doWrite 12
theorem d_Ref_doWrite_21 : decode (jm_cod M_Ref_doWrite) 21 = .ok (.iload 5, 2) := dt_Ref_doWrite 13
theorem d_Ref_doWrite_23 : decode (jm_cod M_Ref_doWrite) 23 = .ok (.if_icmp .ge 74, 3) := dt_Ref_doWrite 14
theorem d_Ref_doWrite_26 : decode (jm_cod M_Ref_doWrite) 26 = .ok (.iconst 0, 1) := dt_Ref_doWrite 15
theorem d_Ref_doWrite_27 : decode (jm_cod M_Ref_doWrite) 27 = .ok (.istore 8, 2) := dt_Ref_doWrite 16
theorem d_Ref_doWrite_29 : decode (jm_cod M_Ref_doWrite) 29 = .ok (.iload 8, 2) := dt_Ref_doWrite 17
theorem d_Ref_doWrite_31 : decode (jm_cod M_Ref_doWrite) 31 = .ok (.bipush 8, 2) := dt_Ref_doWrite 18
theorem d_Ref_doWrite_33 : decode (jm_cod M_Ref_doWrite) 33 = .ok (.if_icmp .ge 58, 3) := dt_Ref_doWrite 19
theorem d_Ref_doWrite_36 : decode (jm_cod M_Ref_doWrite) 36 = .ok (.iload 6, 2) := dt_Ref_doWrite 20
theorem d_Ref_doWrite_38 : decode (jm_cod M_Ref_doWrite) 38 = .ok (.ifCond .ne 40, 3) := dt_Ref_doWrite 21
theorem d_Ref_doWrite_41 : decode (jm_cod M_Ref_doWrite) 41 = .ok (.aload_n 0, 1) := dt_Ref_doWrite 22
theorem d_Ref_doWrite_42 : decode (jm_cod M_Ref_doWrite) 42 = .ok (.getfield 178, 3) := dt_Ref_doWrite 23
theorem d_Ref_doWrite_45 : decode (jm_cod M_Ref_doWrite) 45 = .ok (.bipush 16, 2) := dt_Ref_doWrite 24
theorem d_Ref_doWrite_47 : decode (jm_cod M_Ref_doWrite) 47 = .ok (.iload_n 2, 1) := dt_Ref_doWrite 25
theorem d_Ref_doWrite_48 : decode (jm_cod M_Ref_doWrite) 48 = .ok (.imul, 1) := dt_Ref_doWrite 26
theorem d_Ref_doWrite_49 : decode (jm_cod M_Ref_doWrite) 49 = .ok (.iload 7, 2) := dt_Ref_doWrite 27
theorem d_Ref_doWrite_51 : decode (jm_cod M_Ref_doWrite) 51 = .ok (.iadd, 1) := dt_Ref_doWrite 28
theorem d_Ref_doWrite_52 : decode (jm_cod M_Ref_doWrite) 52 = .ok (.iaload, 1) := dt_Ref_doWrite 29
theorem d_Ref_doWrite_53 : decode (jm_cod M_Ref_doWrite) 53 = .ok (.iload 8, 2) := dt_Ref_doWrite 30
theorem d_Ref_doWrite_55 : decode (jm_cod M_Ref_doWrite) 55 = .ok (.ishr, 1) := dt_Ref_doWrite 31
theorem d_Ref_doWrite_56 : decode (jm_cod M_Ref_doWrite) 56 = .ok (.iconst 1, 1) := dt_Ref_doWrite 32
theorem d_Ref_doWrite_57 : decode (jm_cod M_Ref_doWrite) 57 = .ok (.iand, 1) := dt_Ref_doWrite 33
theorem d_Ref_doWrite_58 : decode (jm_cod M_Ref_doWrite) 58 = .ok (.iconst 1, 1) := dt_Ref_doWrite 34
theorem d_Ref_doWrite_59 : decode (jm_cod M_Ref_doWrite) 59 = .ok (.if_icmp .ne 23, 3) := dt_Ref_doWrite 35
theorem d_Ref_doWrite_62 : decode (jm_cod M_Ref_doWrite) 62 = .ok (.aload_n 0, 1) := dt_Ref_doWrite 36
theorem d_Ref_doWrite_63 : decode (jm_cod M_Ref_doWrite) 63 = .ok (.getfield 33, 3) := dt_Ref_doWrite 37
theorem d_Ref_doWrite_66 : decode (jm_cod M_Ref_doWrite) 66 = .ok (.lload_n 3, 1) := dt_Ref_doWrite 38
theorem d_Ref_doWrite_67 : decode (jm_cod M_Ref_doWrite) 67 = .ok (.iload 7, 2) := dt_Ref_doWrite 39
theorem d_Ref_doWrite_69 : decode (jm_cod M_Ref_doWrite) 69 = .ok (.iload 8, 2) := dt_Ref_doWrite 40
theorem d_Ref_doWrite_71 : decode (jm_cod M_Ref_doWrite) 71 = .ok (.invokestatic 487, 3) := dt_Ref_doWrite 41
theorem d_Ref_doWrite_74 : decode (jm_cod M_Ref_doWrite) 74 = .ok (.baload, 1) := dt_Ref_doWrite 42
theorem d_Ref_doWrite_75 : decode (jm_cod M_Ref_doWrite) 75 = .ok (.ifCond .eq 7, 3) := dt_Ref_doWrite 43
theorem d_Ref_doWrite_78 : decode (jm_cod M_Ref_doWrite) 78 = .ok (.iconst 1, 1) := dt_Ref_doWrite 44
theorem d_Ref_doWrite_79 : decode (jm_cod M_Ref_doWrite) 79 = .ok (.goto 4, 3) := dt_Ref_doWrite 45
theorem d_Ref_doWrite_82 : decode (jm_cod M_Ref_doWrite) 82 = .ok (.iconst 0, 1) := dt_Ref_doWrite 46
theorem d_Ref_doWrite_83 : decode (jm_cod M_Ref_doWrite) 83 = .ok (.istore 6, 2) := dt_Ref_doWrite 47
theorem d_Ref_doWrite_85 : decode (jm_cod M_Ref_doWrite) 85 = .ok (.iinc 8 1, 3) := dt_Ref_doWrite 48
theorem d_Ref_doWrite_88 : decode (jm_cod M_Ref_doWrite) 88 = .ok (.goto (-59), 3) := dt_Ref_doWrite 49
theorem d_Ref_doWrite_91 : decode (jm_cod M_Ref_doWrite) 91 = .ok (.iinc 7 1, 3) := dt_Ref_doWrite 50
theorem d_Ref_doWrite_94 : decode (jm_cod M_Ref_doWrite) 94 = .ok (.goto (-75), 3) := dt_Ref_doWrite 51
theorem d_Ref_doWrite_97 : decode (jm_cod M_Ref_doWrite) 97 = .ok (.bipush 64, 2) := dt_Ref_doWrite 52
theorem d_Ref_doWrite_99 : decode (jm_cod M_Ref_doWrite) 99 = .ok (.iload_n 1, 1) := dt_Ref_doWrite 53
theorem d_Ref_doWrite_100 : decode (jm_cod M_Ref_doWrite) 100 = .ok (.imul, 1) := dt_Ref_doWrite 54
theorem d_Ref_doWrite_101 : decode (jm_cod M_Ref_doWrite) 101 = .ok (.lload_n 3, 1) := dt_Ref_doWrite 55
theorem d_Ref_doWrite_102 : decode (jm_cod M_Ref_doWrite) 102 = .ok (.invokestatic 396, 3) := dt_Ref_doWrite 56
theorem d_Ref_doWrite_105 : decode (jm_cod M_Ref_doWrite) 105 = .ok (.iadd, 1) := dt_Ref_doWrite 57
theorem d_Ref_doWrite_106 : decode (jm_cod M_Ref_doWrite) 106 = .ok (.istore 7, 2) := dt_Ref_doWrite 58
theorem d_Ref_doWrite_108 : decode (jm_cod M_Ref_doWrite) 108 = .ok (.aload_n 0, 1) := dt_Ref_doWrite 59
theorem d_Ref_doWrite_109 : decode (jm_cod M_Ref_doWrite) 109 = .ok (.getfield 220, 3) := dt_Ref_doWrite 60
theorem d_Ref_doWrite_112 : decode (jm_cod M_Ref_doWrite) 112 = .ok (.iload 7, 2) := dt_Ref_doWrite 61
theorem d_Ref_doWrite_114 : decode (jm_cod M_Ref_doWrite) 114 = .ok (.iaload, 1) := dt_Ref_doWrite 62
theorem d_Ref_doWrite_115 : decode (jm_cod M_Ref_doWrite) 115 = .ok (.lload_n 3, 1) := dt_Ref_doWrite 63
theorem d_Ref_doWrite_116 : decode (jm_cod M_Ref_doWrite) 116 = .ok (.invokestatic 314, 3) := dt_Ref_doWrite 64
theorem d_Ref_doWrite_119 : decode (jm_cod M_Ref_doWrite) 119 = .ok (.if_icmp .ne 24, 3) := dt_Ref_doWrite 65
theorem d_Ref_doWrite_122 : decode (jm_cod M_Ref_doWrite) 122 = .ok (.aload_n 0, 1) := dt_Ref_doWrite 66
theorem d_Ref_doWrite_123 : decode (jm_cod M_Ref_doWrite) 123 = .ok (.getfield 223, 3) := dt_Ref_doWrite 67
theorem d_Ref_doWrite_126 : decode (jm_cod M_Ref_doWrite) 126 = .ok (.iload 7, 2) := dt_Ref_doWrite 68
theorem d_Ref_doWrite_128 : decode (jm_cod M_Ref_doWrite) 128 = .ok (.iaload, 1) := dt_Ref_doWrite 69
theorem d_Ref_doWrite_129 : decode (jm_cod M_Ref_doWrite) 129 = .ok (.iload 5, 2) := dt_Ref_doWrite 70
theorem d_Ref_doWrite_131 : decode (jm_cod M_Ref_doWrite) 131 = .ok (.lload_n 3, 1) := dt_Ref_doWrite 71
theorem d_Ref_doWrite_132 : decode (jm_cod M_Ref_doWrite) 132 = .ok (.invokestatic 318, 3) := dt_Ref_doWrite 72
theorem d_Ref_doWrite_135 : decode (jm_cod M_Ref_doWrite) 135 = .ok (.imul, 1) := dt_Ref_doWrite 73
theorem d_Ref_doWrite_136 : decode (jm_cod M_Ref_doWrite) 136 = .ok (.if_icmp .ne 7, 3) := dt_Ref_doWrite 74
theorem d_Ref_doWrite_139 : decode (jm_cod M_Ref_doWrite) 139 = .ok (.iconst 1, 1) := dt_Ref_doWrite 75
theorem d_Ref_doWrite_140 : decode (jm_cod M_Ref_doWrite) 140 = .ok (.goto 4, 3) := dt_Ref_doWrite 76
theorem d_Ref_doWrite_143 : decode (jm_cod M_Ref_doWrite) 143 = .ok (.iconst 0, 1) := dt_Ref_doWrite 77
theorem d_Ref_doWrite_144 : decode (jm_cod M_Ref_doWrite) 144 = .ok (.istore 8, 2) := dt_Ref_doWrite 78
theorem d_Ref_doWrite_146 : decode (jm_cod M_Ref_doWrite) 146 = .ok (.lload_n 3, 1) := dt_Ref_doWrite 79
theorem d_Ref_doWrite_147 : decode (jm_cod M_Ref_doWrite) 147 = .ok (.invokestatic 329, 3) := dt_Ref_doWrite 80
theorem d_Ref_doWrite_150 : decode (jm_cod M_Ref_doWrite) 150 = .ok (.ifCond .eq 11, 3) := dt_Ref_doWrite 81
theorem d_Ref_doWrite_153 : decode (jm_cod M_Ref_doWrite) 153 = .ok (.aload_n 0, 1) := dt_Ref_doWrite 82
theorem d_Ref_doWrite_154 : decode (jm_cod M_Ref_doWrite) 154 = .ok (.getfield 220, 3) := dt_Ref_doWrite 83
theorem d_Ref_doWrite_157 : decode (jm_cod M_Ref_doWrite) 157 = .ok (.iload 7, 2) := dt_Ref_doWrite 84
theorem d_Ref_doWrite_159 : decode (jm_cod M_Ref_doWrite) 159 = .ok (.iconst (-1), 1) := dt_Ref_doWrite 85
theorem d_Ref_doWrite_160 : decode (jm_cod M_Ref_doWrite) 160 = .ok (.iastore, 1) := dt_Ref_doWrite 86
theorem d_Ref_doWrite_161 : decode (jm_cod M_Ref_doWrite) 161 = .ok (.aload_n 0, 1) := dt_Ref_doWrite 87
theorem d_Ref_doWrite_162 : decode (jm_cod M_Ref_doWrite) 162 = .ok (.getfield 172, 3) := dt_Ref_doWrite 88
theorem d_Ref_doWrite_165 : decode (jm_cod M_Ref_doWrite) 165 = .ok (.iload_n 2, 1) := dt_Ref_doWrite 89
theorem d_Ref_doWrite_166 : decode (jm_cod M_Ref_doWrite) 166 = .ok (.iload 6, 2) := dt_Ref_doWrite 90
theorem d_Ref_doWrite_168 : decode (jm_cod M_Ref_doWrite) 168 = .ok (.ifCond .eq 7, 3) := dt_Ref_doWrite 91
theorem d_Ref_doWrite_171 : decode (jm_cod M_Ref_doWrite) 171 = .ok (.iconst 2, 1) := dt_Ref_doWrite 92
theorem d_Ref_doWrite_172 : decode (jm_cod M_Ref_doWrite) 172 = .ok (.goto 20, 3) := dt_Ref_doWrite 93
theorem d_Ref_doWrite_175 : decode (jm_cod M_Ref_doWrite) 175 = .ok (.lload_n 3, 1) := dt_Ref_doWrite 94
theorem d_Ref_doWrite_176 : decode (jm_cod M_Ref_doWrite) 176 = .ok (.invokestatic 329, 3) := dt_Ref_doWrite 95
theorem d_Ref_doWrite_179 : decode (jm_cod M_Ref_doWrite) 179 = .ok (.ifCond .eq 12, 3) := dt_Ref_doWrite 96
theorem d_Ref_doWrite_182 : decode (jm_cod M_Ref_doWrite) 182 = .ok (.iload 8, 2) := dt_Ref_doWrite 97
theorem d_Ref_doWrite_184 : decode (jm_cod M_Ref_doWrite) 184 = .ok (.ifCond .eq 7, 3) := dt_Ref_doWrite 98
theorem d_Ref_doWrite_187 : decode (jm_cod M_Ref_doWrite) 187 = .ok (.iconst 1, 1) := dt_Ref_doWrite 99
theorem d_Ref_doWrite_188 : decode (jm_cod M_Ref_doWrite) 188 = .ok (.goto 4, 3) := dt_Ref_doWrite 100
theorem d_Ref_doWrite_191 : decode (jm_cod M_Ref_doWrite) 191 = .ok (.iconst 0, 1) := dt_Ref_doWrite 101
theorem d_Ref_doWrite_192 : decode (jm_cod M_Ref_doWrite) 192 = .ok (.iastore, 1) := dt_Ref_doWrite 102
theorem d_Ref_doWrite_193 : decode (jm_cod M_Ref_doWrite) 193 = .ok (.iload 6, 2) := dt_Ref_doWrite 103
theorem d_Ref_doWrite_195 : decode (jm_cod M_Ref_doWrite) 195 = .ok (.ifCond .ne 15, 3) := dt_Ref_doWrite 104
theorem d_Ref_doWrite_198 : decode (jm_cod M_Ref_doWrite) 198 = .ok (.lload_n 3, 1) := dt_Ref_doWrite 105
theorem d_Ref_doWrite_199 : decode (jm_cod M_Ref_doWrite) 199 = .ok (.invokestatic 329, 3) := dt_Ref_doWrite 106
theorem d_Ref_doWrite_202 : decode (jm_cod M_Ref_doWrite) 202 = .ok (.ifCond .eq 9, 3) := dt_Ref_doWrite 107
theorem d_Ref_doWrite_205 : decode (jm_cod M_Ref_doWrite) 205 = .ok (.iload 8, 2) := dt_Ref_doWrite 108
theorem d_Ref_doWrite_207 : decode (jm_cod M_Ref_doWrite) 207 = .ok (.ifCond .ne 4, 3) := dt_Ref_doWrite 109
theorem d_Ref_doWrite_210 : decode (jm_cod M_Ref_doWrite) 210 = .ok (.return_, 1) := dt_Ref_doWrite 110
theorem d_Ref_doWrite_211 : decode (jm_cod M_Ref_doWrite) 211 = .ok (.iconst 0, 1) := dt_Ref_doWrite 111
theorem d_Ref_doWrite_212 : decode (jm_cod M_Ref_doWrite) 212 = .ok (.istore 9, 2) := dt_Ref_doWrite 112
theorem d_Ref_doWrite_214 : decode (jm_cod M_Ref_doWrite) 214 = .ok (.iload 9, 2) := dt_Ref_doWrite 113
theorem d_Ref_doWrite_216 : decode (jm_cod M_Ref_doWrite) 216 = .ok (.iload 5, 2) := dt_Ref_doWrite 114
theorem d_Ref_doWrite_218 : decode (jm_cod M_Ref_doWrite) 218 = .ok (.if_icmp .ge 93, 3) := dt_Ref_doWrite 115
theorem d_Ref_doWrite_221 : decode (jm_cod M_Ref_doWrite) 221 = .ok (.iconst 0, 1) := dt_Ref_doWrite 116
theorem d_Ref_doWrite_222 : decode (jm_cod M_Ref_doWrite) 222 = .ok (.istore 10, 2) := dt_Ref_doWrite 117
theorem d_Ref_doWrite_224 : decode (jm_cod M_Ref_doWrite) 224 = .ok (.iload 10, 2) := dt_Ref_doWrite 118
theorem d_Ref_doWrite_226 : decode (jm_cod M_Ref_doWrite) 226 = .ok (.bipush 8, 2) := dt_Ref_doWrite 119
theorem d_Ref_doWrite_228 : decode (jm_cod M_Ref_doWrite) 228 = .ok (.if_icmp .ge 77, 3) := dt_Ref_doWrite 120
theorem d_Ref_doWrite_231 : decode (jm_cod M_Ref_doWrite) 231 = .ok (.aload_n 0, 1) := dt_Ref_doWrite 121
theorem d_Ref_doWrite_232 : decode (jm_cod M_Ref_doWrite) 232 = .ok (.getfield 178, 3) := dt_Ref_doWrite 122
theorem d_Ref_doWrite_235 : decode (jm_cod M_Ref_doWrite) 235 = .ok (.bipush 16, 2) := dt_Ref_doWrite 123
theorem d_Ref_doWrite_237 : decode (jm_cod M_Ref_doWrite) 237 = .ok (.iload_n 2, 1) := dt_Ref_doWrite 124
theorem d_Ref_doWrite_238 : decode (jm_cod M_Ref_doWrite) 238 = .ok (.imul, 1) := dt_Ref_doWrite 125
theorem d_Ref_doWrite_239 : decode (jm_cod M_Ref_doWrite) 239 = .ok (.iload 9, 2) := dt_Ref_doWrite 126
theorem d_Ref_doWrite_241 : decode (jm_cod M_Ref_doWrite) 241 = .ok (.iadd, 1) := dt_Ref_doWrite 127
theorem d_Ref_doWrite_242 : decode (jm_cod M_Ref_doWrite) 242 = .ok (.iaload, 1) := dt_Ref_doWrite 128
theorem d_Ref_doWrite_243 : decode (jm_cod M_Ref_doWrite) 243 = .ok (.iload 10, 2) := dt_Ref_doWrite 129
theorem d_Ref_doWrite_245 : decode (jm_cod M_Ref_doWrite) 245 = .ok (.ishr, 1) := dt_Ref_doWrite 130
theorem d_Ref_doWrite_246 : decode (jm_cod M_Ref_doWrite) 246 = .ok (.iconst 1, 1) := dt_Ref_doWrite 131
theorem d_Ref_doWrite_247 : decode (jm_cod M_Ref_doWrite) 247 = .ok (.iand, 1) := dt_Ref_doWrite 132
theorem d_Ref_doWrite_248 : decode (jm_cod M_Ref_doWrite) 248 = .ok (.iconst 1, 1) := dt_Ref_doWrite 133
theorem d_Ref_doWrite_249 : decode (jm_cod M_Ref_doWrite) 249 = .ok (.if_icmp .ne 50, 3) := dt_Ref_doWrite 134
theorem d_Ref_doWrite_252 : decode (jm_cod M_Ref_doWrite) 252 = .ok (.lload_n 3, 1) := dt_Ref_doWrite 135
theorem d_Ref_doWrite_253 : decode (jm_cod M_Ref_doWrite) 253 = .ok (.iload 9, 2) := dt_Ref_doWrite 136
theorem d_Ref_doWrite_255 : decode (jm_cod M_Ref_doWrite) 255 = .ok (.iload 10, 2) := dt_Ref_doWrite 137
theorem d_Ref_doWrite_257 : decode (jm_cod M_Ref_doWrite) 257 = .ok (.invokestatic 487, 3) := dt_Ref_doWrite 138
theorem d_Ref_doWrite_260 : decode (jm_cod M_Ref_doWrite) 260 = .ok (.istore 11, 2) := dt_Ref_doWrite 139
theorem d_Ref_doWrite_262 : decode (jm_cod M_Ref_doWrite) 262 = .ok (.aload_n 0, 1) := dt_Ref_doWrite 140
theorem d_Ref_doWrite_263 : decode (jm_cod M_Ref_doWrite) 263 = .ok (.getfield 30, 3) := dt_Ref_doWrite 141
theorem d_Ref_doWrite_266 : decode (jm_cod M_Ref_doWrite) 266 = .ok (.iload 11, 2) := dt_Ref_doWrite 142
theorem d_Ref_doWrite_268 : decode (jm_cod M_Ref_doWrite) 268 = .ok (.aload_n 0, 1) := dt_Ref_doWrite 143
theorem d_Ref_doWrite_269 : decode (jm_cod M_Ref_doWrite) 269 = .ok (.getfield 175, 3) := dt_Ref_doWrite 144
theorem d_Ref_doWrite_272 : decode (jm_cod M_Ref_doWrite) 272 = .ok (.bipush 16, 2) := dt_Ref_doWrite 145
theorem d_Ref_doWrite_274 : decode (jm_cod M_Ref_doWrite) 274 = .ok (.iload_n 2, 1) := dt_Ref_doWrite 146
theorem d_Ref_doWrite_275 : decode (jm_cod M_Ref_doWrite) 275 = .ok (.imul, 1) := dt_Ref_doWrite 147
theorem d_Ref_doWrite_276 : decode (jm_cod M_Ref_doWrite) 276 = .ok (.iload 9, 2) := dt_Ref_doWrite 148
theorem d_Ref_doWrite_278 : decode (jm_cod M_Ref_doWrite) 278 = .ok (.iadd, 1) := dt_Ref_doWrite 149
theorem d_Ref_doWrite_279 : decode (jm_cod M_Ref_doWrite) 279 = .ok (.laload, 1) := dt_Ref_doWrite 150
theorem d_Ref_doWrite_280 : decode (jm_cod M_Ref_doWrite) 280 = .ok (.bipush 8, 2) := dt_Ref_doWrite 151
theorem d_Ref_doWrite_282 : decode (jm_cod M_Ref_doWrite) 282 = .ok (.iload 10, 2) := dt_Ref_doWrite 152
theorem d_Ref_doWrite_284 : decode (jm_cod M_Ref_doWrite) 284 = .ok (.imul, 1) := dt_Ref_doWrite 153
theorem d_Ref_doWrite_285 : decode (jm_cod M_Ref_doWrite) 285 = .ok (.lshr, 1) := dt_Ref_doWrite 154
theorem d_Ref_doWrite_286 : decode (jm_cod M_Ref_doWrite) 286 = .ok (.l2i, 1) := dt_Ref_doWrite 155
theorem d_Ref_doWrite_287 : decode (jm_cod M_Ref_doWrite) 287 = .ok (.sipush 255, 3) := dt_Ref_doWrite 156
theorem d_Ref_doWrite_290 : decode (jm_cod M_Ref_doWrite) 290 = .ok (.iand, 1) := dt_Ref_doWrite 157
theorem d_Ref_doWrite_291 : decode (jm_cod M_Ref_doWrite) 291 = .ok (.iastore, 1) := dt_Ref_doWrite 158
theorem d_Ref_doWrite_292 : decode (jm_cod M_Ref_doWrite) 292 = .ok (.aload_n 0, 1) := dt_Ref_doWrite 159
theorem d_Ref_doWrite_293 : decode (jm_cod M_Ref_doWrite) 293 = .ok (.iload_n 1, 1) := dt_Ref_doWrite 160
theorem d_Ref_doWrite_294 : decode (jm_cod M_Ref_doWrite) 294 = .ok (.iload 11, 2) := dt_Ref_doWrite 161
theorem d_Ref_doWrite_296 : decode (jm_cod M_Ref_doWrite) 296 = .ok (.invokevirtual 491, 3) := dt_Ref_doWrite 162
theorem d_Ref_doWrite_299 : decode (jm_cod M_Ref_doWrite) 299 = .ok (.iinc 10 1, 3) := dt_Ref_doWrite 163
theorem d_Ref_doWrite_302 : decode (jm_cod M_Ref_doWrite) 302 = .ok (.goto (-78), 3) := dt_Ref_doWrite 164
theorem d_Ref_doWrite_305 : decode (jm_cod M_Ref_doWrite) 305 = .ok (.iinc 9 1, 3) := dt_Ref_doWrite 165
theorem d_Ref_doWrite_308 : decode (jm_cod M_Ref_doWrite) 308 = .ok (.goto (-94), 3) := dt_Ref_doWrite 166
theorem d_Ref_doWrite_311 : decode (jm_cod M_Ref_doWrite) 311 = .ok (.return_, 1) := dt_Ref_doWrite 167
def tab_Ref_byteAt : List (Nat × Instr × Nat) := [(0, .lload_n 0, 1), (1, .iload_n 2, 1), (2, .invokestatic 366, 3), (5, .istore 4, 2), (7, .iload 4, 2), (9, .iload 4, 2), (11, .bipush 8, 2), (13, .irem, 1), (14, .isub, 1), (15, .iload_n 3, 1), (16, .iadd, 1), (17, .ireturn, 1)]
theorem dt_Ref_byteAt (i : Nat) : decode (jm_cod M_Ref_byteAt) (tab_Ref_byteAt.getD i (0, .lload_n 0, 1)).1 = .ok ((tab_Ref_byteAt.getD i (0, .lload_n 0, 1)).2.1, (tab_Ref_byteAt.getD i (0, .lload_n 0, 1)).2.2) := j_tab (by decide +kernel) i
theorem d_Ref_byteAt_0 : decode (jm_cod M_Ref_byteAt) 0 = .ok (.lload_n 0, 1) := dt_Ref_byteAt 0
theorem d_Ref_byteAt_1 : decode (jm_cod M_Ref_byteAt) 1 = .ok (.iload_n 2, 1) := dt_Ref_byteAt 1
theorem d_Ref_byteAt_2 : decode (jm_cod M_Ref_byteAt) 2 = .ok (.invokestatic 366, 3) := dt_Ref_byteAt 2
theorem d_Ref_byteAt_5 : decode (jm_cod M_Ref_byteAt) 5 = .ok (.istore 4, 2) := dt_Ref_byteAt 3
theorem d_Ref_byteAt_7 : decode (jm_cod M_Ref_byteAt) 7 = .ok (.iload 4, 2) := dt_Ref_byteAt 4
theorem d_Ref_byteAt_9 : decode (jm_cod M_Ref_byteAt) 9 = .ok (.iload 4, 2) := dt_Ref_byteAt 5
theorem d_Ref_byteAt_11 : decode (jm_cod M_Ref_byteAt) 11 = .ok (.bipush 8, 2) := dt_Ref_byteAt 6
theorem d_Ref_byteAt_13 : decode (jm_cod M_Ref_byteAt) 13 = .ok (.irem, 1) := dt_Ref_byteAt 7
theorem d_Ref_byteAt_14 : decode (jm_cod M_Ref_byteAt) 14 = .ok (.isub, 1) := dt_Ref_byteAt 8
theorem d_Ref_byteAt_15 : decode (jm_cod M_Ref_byteAt) 15 = .ok (.iload_n 3, 1) := dt_Ref_byteAt 9
theorem d_Ref_byteAt_16 : decode (jm_cod M_Ref_byteAt) 16 = .ok (.iadd, 1) := dt_Ref_byteAt 10
theorem d_Ref_byteAt_17 : decode (jm_cod M_Ref_byteAt) 17 = .ok (.ireturn, 1) := dt_Ref_byteAt 11
def tab_Ref_takeRights : List (Nat × Instr × Nat) := [(0, .bipush 64, 2), (2, .iload_n 1, 1), (3, .imul, 1), (4, .istore_n 3, 1), (5, .iload_n 3, 1), (6, .bipush 64, 2), (8, .iload_n 1, 1), (9, .imul, 1), (10, .bipush 64, 2), (12, .iadd, 1), (13, .if_icmp .ge 53, 3), (16, .aload_n 0, 1), (17, .getfield 220, 3), (20, .iload_n 3, 1), (21, .iaload, 1), (22, .iconst (-1), 1), (23, .if_icmp .eq 37, 3), (26, .iload_n 2, 1), (27, .aload_n 0, 1), (28, .getfield 220, 3), (31, .iload_n 3, 1), (32, .iaload, 1), (33, .if_icmp .lt 27, 3), (36, .iload_n 2, 1), (37, .aload_n 0, 1), (38, .getfield 220, 3), (41, .iload_n 3, 1), (42, .iaload, 1), (43, .aload_n 0, 1), (44, .getfield 223, 3), (47, .iload_n 3, 1), (48, .iaload, 1), (49, .iadd, 1), (50, .if_icmp .ge 10, 3), (53, .aload_n 0, 1), (54, .getfield 220, 3), (57, .iload_n 3, 1), (58, .iconst (-1), 1), (59, .iastore, 1), (60, .iinc 3 1, 3), (63, .goto (-58), 3), (66, .return_, 1)]
theorem dt_Ref_takeRights (i : Nat) : decode (jm_cod M_Ref_takeRights) (tab_Ref_takeRights.getD i (0, .bipush 64, 2)).1 = .ok ((tab_Ref_takeRights.getD i (0, .bipush 64, 2)).2.1, (tab_Ref_takeRights.getD i (0, .bipush 64, 2)).2.2) := j_tab (by decide +kernel) i
theorem d_Ref_takeRights_0 : decode (jm_cod M_Ref_takeRights) 0 = .ok (.bipush 64, 2) := dt_Ref_takeRights 0
theorem d_Ref_takeRights_2 : decode (jm_cod M_Ref_takeRights) 2 = .ok (.iload_n 1, 1) := dt_Ref_takeRights 1
theorem d_Ref_takeRights_3 : decode (jm_cod M_Ref_takeRights) 3 = .ok (.imul, 1) := dt_Ref_takeRights 2
theorem d_Ref_takeRights_4 : decode (jm_cod M_Ref_takeRights) 4 = .ok (.istore_n 3, 1) := dt_Ref_takeRights 3
theorem d_Ref_takeRights_5 : decode (jm_cod M_Ref_takeRights) 5 = .ok (.iload_n 3, 1) := dt_Ref_takeRights 4
theorem d_Ref_takeRights_6 : decode (jm_cod M_Ref_takeRights) 6 = .ok (.bipush 64, 2) := dt_Ref_takeRights 5
theorem d_Ref_takeRights_8 : decode (jm_cod M_Ref_takeRights) 8 = .ok (.iload_n 1, 1) := dt_Ref_takeRights 6
theorem d_Ref_takeRights_9 : decode (jm_cod M_Ref_takeRights) 9 = .ok (.imul, 1) := dt_Ref_takeRights 7
theorem d_Ref_takeRights_10 : decode (jm_cod M_Ref_takeRights) 10 = .ok (.bipush 64, 2) := dt_Ref_takeRights 8
theorem d_Ref_takeRights_12 : decode (jm_cod M_Ref_takeRights) 12 = .ok (.iadd, 1) := dt_Ref_takeRights 9
theorem d_Ref_takeRights_13 : decode (jm_cod M_Ref_takeRights) 13 = .ok (.if_icmp .ge 53, 3) := dt_Ref_takeRights 10
theorem d_Ref_takeRights_16 : decode (jm_cod M_Ref_takeRights) 16 = .ok (.aload_n 0, 1) := dt_Ref_takeRights 11
theorem d_Ref_takeRights_17 : decode (jm_cod M_Ref_takeRights) 17 = .ok (.getfield 220, 3) := dt_Ref_takeRights 12
theorem d_Ref_takeRights_20 : decode (jm_cod M_Ref_takeRights) 20 = .ok (.iload_n 3, 1) := dt_Ref_takeRights 13
theorem d_Ref_takeRights_21 : decode (jm_cod M_Ref_takeRights) 21 = .ok (.iaload, 1) := dt_Ref_takeRights 14
theorem d_Ref_takeRights_22 : decode (jm_cod M_Ref_takeRights) 22 = .ok (.iconst (-1), 1) := dt_Ref_takeRights 15
theorem d_Ref_takeRights_23 : decode (jm_cod M_Ref_takeRights) 23 = .ok (.if_icmp .eq 37, 3) := dt_Ref_takeRights 16
theorem d_Ref_takeRights_26 : decode (jm_cod M_Ref_takeRights) 26 = .ok (.iload_n 2, 1) := dt_Ref_takeRights 17
theorem d_Ref_takeRights_27 : decode (jm_cod M_Ref_takeRights) 27 = .ok (.aload_n 0, 1) := dt_Ref_takeRights 18
theorem d_Ref_takeRights_28 : decode (jm_cod M_Ref_takeRights) 28 = .ok (.getfield 220, 3) := dt_Ref_takeRights 19
theorem d_Ref_takeRights_31 : decode (jm_cod M_Ref_takeRights) 31 = .ok (.iload_n 3, 1) := dt_Ref_takeRights 20
theorem d_Ref_takeRights_32 : decode (jm_cod M_Ref_takeRights) 32 = .ok (.iaload, 1) := dt_Ref_takeRights 21
theorem d_Ref_takeRights_33 : decode (jm_cod M_Ref_takeRights) 33 = .ok (.if_icmp .lt 27, 3) := dt_Ref_takeRights 22
theorem d_Ref_takeRights_36 : decode (jm_cod M_Ref_takeRights) 36 = .ok (.iload_n 2, 1) := dt_Ref_takeRights 23
theorem d_Ref_takeRights_37 : decode (jm_cod M_Ref_takeRights) 37 = .ok (.aload_n 0, 1) := dt_Ref_takeRights 24
theorem d_Ref_takeRights_38 : decode (jm_cod M_Ref_takeRights) 38 = .ok (.getfield 220, 3) := dt_Ref_takeRights 25
theorem d_Ref_takeRights_41 : decode (jm_cod M_Ref_takeRights) 41 = .ok (.iload_n 3, 1) := dt_Ref_takeRights 26
theorem d_Ref_takeRights_42 : decode (jm_cod M_Ref_takeRights) 42 = .ok (.iaload, 1) := dt_Ref_takeRights 27
theorem d_Ref_takeRights_43 : decode (jm_cod M_Ref_takeRights) 43 = .ok (.aload_n 0, 1) := dt_Ref_takeRights 28
theorem d_Ref_takeRights_44 : decode (jm_cod M_Ref_takeRights) 44 = .ok (.getfield 223, 3) := dt_Ref_takeRights 29
theorem d_Ref_takeRights_47 : decode (jm_cod M_Ref_takeRights) 47 = .ok (.iload_n 3, 1) := dt_Ref_takeRights 30
theorem d_Ref_takeRights_48 : decode (jm_cod M_Ref_takeRights) 48 = .ok (.iaload, 1) := dt_Ref_takeRights 31
theorem d_Ref_takeRights_49 : decode (jm_cod M_Ref_takeRights) 49 = .ok (.iadd, 1) := dt_Ref_takeRights 32
theorem d_Ref_takeRights_50 : decode (jm_cod M_Ref_takeRights) 50 = .ok (.if_icmp .ge 10, 3) := dt_Ref_takeRights 33
theorem d_Ref_takeRights_53 : decode (jm_cod M_Ref_takeRights) 53 = .ok (.aload_n 0, 1) := dt_Ref_takeRights 34
theorem d_Ref_takeRights_54 : decode (jm_cod M_Ref_takeRights) 54 = .ok (.getfield 220, 3) := dt_Ref_takeRights 35
theorem d_Ref_takeRights_57 : decode (jm_cod M_Ref_takeRights) 57 = .ok (.iload_n 3, 1) := dt_Ref_takeRights 36
theorem d_Ref_takeRights_58 : decode (jm_cod M_Ref_takeRights) 58 = .ok (.iconst (-1), 1) := dt_Ref_takeRights 37
theorem d_Ref_takeRights_59 : decode (jm_cod M_Ref_takeRights) 59 = .ok (.iastore, 1) := dt_Ref_takeRights 38
theorem d_Ref_takeRights_60 : decode (jm_cod M_Ref_takeRights) 60 = .ok (.iinc 3 1, 3) := dt_Ref_takeRights 39
theorem d_Ref_takeRights_63 : decode (jm_cod M_Ref_takeRights) 63 = .ok (.goto (-58), 3) := dt_Ref_takeRights 40
theorem d_Ref_takeRights_66 : decode (jm_cod M_Ref_takeRights) 66 = .ok (.return_, 1) := dt_Ref_takeRights 41
def tab_Ref_readComes : List (Nat × Instr × Nat) := [(0, .aload_n 0, 1), (1, .getfield 187, 3), (4, .iload_n 1, 1), (5, .invokestatic 480, 3), (8, .istore 4, 2), (10, .aload_n 0, 1), (11, .getfield 187, 3), (14, .iload 4, 2), (16, .iconst 1, 1), (17, .bastore, 1), (18, .aload_n 0, 1), (19, .getfield 184, 3), (22, .iconst 4, 1), (23, .iload_n 1, 1), (24, .imul, 1), (25, .aload_n 0, 1), (26, .getfield 181, 3), (29, .iload_n 1, 1), (30, .iaload, 1), (31, .iadd, 1), (32, .iload 4, 2), (34, .iastore, 1), (35, .aload_n 0, 1), (36, .getfield 181, 3), (39, .iload_n 1, 1), (40, .dup2, 1), (41, .iaload, 1), (42, .iconst 1, 1), (43, .iadd, 1), (44, .iastore, 1), (45, .aload_n 0, 1), (46, .getfield 190, 3), (49, .iload 4, 2), (51, .lload_n 2, 1), (52, .lastore, 1), (53, .aload_n 0, 1), (54, .getfield 193, 3), (57, .iload 4, 2), (59, .iconst 0, 1), (60, .iastore, 1), (61, .aload_n 0, 1), (62, .getfield 196, 3), (65, .iload 4, 2), (67, .aload_n 0, 1), (68, .getfield 348, 3), (71, .iastore, 1), (72, .aload_n 0, 1), (73, .getfield 199, 3), (76, .iload 4, 2), (78, .aload_n 0, 1), (79, .getfield 208, 3), (82, .iload_n 1, 1), (83, .iaload, 1), (84, .iastore, 1), (85, .aload_n 0, 1), (86, .getfield 208, 3), (89, .iload_n 1, 1), (90, .dup2, 1), (91, .iaload, 1), (92, .iconst 1, 1), (93, .iadd, 1), (94, .iastore, 1), (95, .iconst 1, 1), (96, .istore 5, 2), (98, .iconst 0, 1), (99, .istore 6, 2), (101, .iload 6, 2), (103, .lload_n 2, 1), (104, .invokestatic 321, 3), (107, .if_icmp .ge 154, 3), (110, .aload_n 0, 1), (111, .lload_n 2, 1), (112, .iload 6, 2), (114, .invokevirtual 494, 3), (117, .istore 7, 2), (119, .lload_n 2, 1), (120, .iload 6, 2), (122, .invokestatic 366, 3), (125, .istore 8, 2), (127, .lload_n 2, 1), (128, .invokestatic 318, 3), (131, .istore 9, 2), (133, .lconst 0, 1), (134, .lstore 10, 2), (136, .iload 8, 2), (138, .istore 12, 2), (140, .iload 12, 2), (142, .iload 8, 2), (144, .iload 8, 2), (146, .iload 9, 2), (148, .irem, 1), (149, .isub, 1), (150, .iload 9, 2), (152, .iadd, 1), (153, .if_icmp .ge 36, 3), (156, .iload 7, 2), (158, .ifCond .ne 31, 3), (161, .lload 10, 2), (163, .aload_n 0, 1), (164, .getfield 30, 3), (167, .iload 12, 2), (169, .iaload, 1), (170, .i2l, 1), (171, .bipush 8, 2), (173, .iload 12, 2), (175, .bipush 8, 2), (177, .irem, 1), (178, .imul, 1), (179, .lshl, 1), (180, .lor, 1), (181, .lstore 10, 2), (183, .iinc 12 1, 3), (186, .goto (-46), 3), (189, .aload_n 0, 1), (190, .getfield 202, 3), (193, .bipush 16, 2), (195, .iload 4, 2), (197, .imul, 1), (198, .iload 6, 2), (200, .iadd, 1), (201, .lload 10, 2), (203, .lastore, 1), (204, .aload_n 0, 1), (205, .getfield 205, 3), (208, .bipush 16, 2), (210, .iload 4, 2), (212, .imul, 1), (213, .iload 6, 2), (215, .iadd, 1), (216, .iload 7, 2), (218, .ifCond .eq 7, 3), (221, .iconst 2, 1), (222, .goto 15, 3), (225, .lload_n 2, 1), (226, .invokestatic 329, 3), (229, .ifCond .eq 7, 3), (232, .iconst 1, 1), (233, .goto 4, 3), (236, .iconst 0, 1), (237, .iastore, 1), (238, .iload 5, 2), (240, .ifCond .eq 12, 3), (243, .iload 7, 2), (245, .ifCond .ne 7, 3), (248, .iconst 1, 1), (249, .goto 4, 3), (252, .iconst 0, 1), (253, .istore 5, 2), (255, .iinc 6 1, 3), (258, .goto (-157), 3), (261, .lload_n 2, 1), (262, .invokestatic 329, 3), (265, .ifCond .eq 49, 3), (268, .iload 5, 2), (270, .ifCond .eq 44, 3), (273, .aload_n 0, 1), (274, .getfield 220, 3), (277, .bipush 64, 2), (279, .iload_n 1, 1), (280, .imul, 1), (281, .lload_n 2, 1), (282, .invokestatic 396, 3), (285, .iadd, 1), (286, .lload_n 2, 1), (287, .invokestatic 314, 3), (290, .iastore, 1), (291, .aload_n 0, 1), (292, .getfield 223, 3), (295, .bipush 64, 2), (297, .iload_n 1, 1), (298, .imul, 1), (299, .lload_n 2, 1), (300, .invokestatic 396, 3), (303, .iadd, 1), (304, .lload_n 2, 1), (305, .invokestatic 321, 3), (308, .lload_n 2, 1), (309, .invokestatic 318, 3), (312, .imul, 1), (313, .iastore, 1), (314, .return_, 1)]
theorem dt_Ref_readComes (i : Nat) : decode (jm_cod M_Ref_readComes) (tab_Ref_readComes.getD i (0, .aload_n 0, 1)).1 = .ok ((tab_Ref_readComes.getD i (0, .aload_n 0, 1)).2.1, (tab_Ref_readComes.getD i (0, .aload_n 0, 1)).2.2) := j_tab (by decide +kernel) i
theorem d_Ref_readComes_0 : decode (jm_cod M_Ref_readComes) 0 = .ok (.aload_n 0, 1) := dt_Ref_readComes 0
theorem d_Ref_readComes_1 : decode (jm_cod M_Ref_readComes) 1 = .ok (.getfield 187, 3) := dt_Ref_readComes 1
theorem d_Ref_readComes_4 : decode (jm_cod M_Ref_readComes) 4 = .ok (.iload_n 1, 1) := dt_Ref_readComes 2
theorem d_Ref_readComes_5 : decode (jm_cod M_Ref_readComes) 5 = .ok (.invokestatic 480, 3) := dt_Ref_readComes 3
theorem d_Ref_readComes_8 : decode (jm_cod M_Ref_readComes) 8 = .ok (.istore 4, 2) := dt_Ref_readComes 4
theorem d_Ref_readComes_10 : decode (jm_cod M_Ref_readComes) 10 = .ok (.aload_n 0, 1) := dt_Ref_readComes 5
theorem d_Ref_readComes_11 : decode (jm_cod M_Ref_readComes) 11 = .ok (.getfield 187, 3) := dt_Ref_readComes 6
theorem d_Ref_readComes_14 : decode (jm_cod M_Ref_readComes) 14 = .ok (.iload 4, 2) := dt_Ref_readComes 7
theorem d_Ref_readComes_16 : decode (jm_cod M_Ref_readComes) 16 = .ok (.iconst 1, 1) := dt_Ref_readComes 8
theorem d_Ref_readComes_17 : decode (jm_cod M_Ref_readComes) 17 = .ok (.bastore, 1) := dt_Ref_readComes 9
theorem d_Ref_readComes_18 : decode (jm_cod M_Ref_readComes) 18 = .ok (.aload_n 0, 1) := dt_Ref_readComes 10
theorem d_Ref_readComes_19 : decode (jm_cod M_Ref_readComes) 19 = .ok (.getfield 184, 3) := dt_Ref_readComes 11
theorem d_Ref_readComes_22 : decode (jm_cod M_Ref_readComes) 22 = .ok (.iconst 4, 1) := dt_Ref_readComes 12
theorem d_Ref_readComes_23 : decode (jm_cod M_Ref_readComes) 23 = .ok (.iload_n 1, 1) := dt_Ref_readComes 13
theorem d_Ref_readComes_24 : decode (jm_cod M_Ref_readComes) 24 = .ok (.imul, 1) := dt_Ref_readComes 14
theorem d_Ref_readComes_25 : decode (jm_cod M_Ref_readComes) 25 = .ok (.aload_n 0, 1) := dt_Ref_readComes 15
theorem d_Ref_readComes_26 : decode (jm_cod M_Ref_readComes) 26 = .ok (.getfield 181, 3) := dt_Ref_readComes 16
theorem d_Ref_readComes_29 : decode (jm_cod M_Ref_readComes) 29 = .ok (.iload_n 1, 1) := dt_Ref_readComes 17
theorem d_Ref_readComes_30 : decode (jm_cod M_Ref_readComes) 30 = .ok (.iaload, 1) := dt_Ref_readComes 18
theorem d_Ref_readComes_31 : decode (jm_cod M_Ref_readComes) 31 = .ok (.iadd, 1) := dt_Ref_readComes 19
theorem d_Ref_readComes_32 : decode (jm_cod M_Ref_readComes) 32 = .ok (.iload 4, 2) := dt_Ref_readComes 20
theorem d_Ref_readComes_34 : decode (jm_cod M_Ref_readComes) 34 = .ok (.iastore, 1) := dt_Ref_readComes 21
theorem d_Ref_readComes_35 : decode (jm_cod M_Ref_readComes) 35 = .ok (.aload_n 0, 1) := dt_Ref_readComes 22
theorem d_Ref_readComes_36 : decode (jm_cod M_Ref_readComes) 36 = .ok (.getfield 181, 3) := dt_Ref_readComes 23
theorem d_Ref_readComes_39 : decode (jm_cod M_Ref_readComes) 39 = .ok (.iload_n 1, 1) := dt_Ref_readComes 24
theorem d_Ref_readComes_40 : decode (jm_cod M_Ref_readComes) 40 = .ok (.dup2, 1) := dt_Ref_readComes 25
theorem d_Ref_readComes_41 : decode (jm_cod M_Ref_readComes) 41 = .ok (.iaload, 1) := dt_Ref_readComes 26
theorem d_Ref_readComes_42 : decode (jm_cod M_Ref_readComes) 42 = .ok (.iconst 1, 1) := dt_Ref_readComes 27
theorem d_Ref_readComes_43 : decode (jm_cod M_Ref_readComes) 43 = .ok (.iadd, 1) := dt_Ref_readComes 28
theorem d_Ref_readComes_44 : decode (jm_cod M_Ref_readComes) 44 = .ok (.iastore, 1) := dt_Ref_readComes 29
theorem d_Ref_readComes_45 : decode (jm_cod M_Ref_readComes) 45 = .ok (.aload_n 0, 1) := dt_Ref_readComes 30
theorem d_Ref_readComes_46 : decode (jm_cod M_Ref_readComes) 46 = .ok (.getfield 190, 3) := dt_Ref_readComes 31
theorem d_Ref_readComes_49 : decode (jm_cod M_Ref_readComes) 49 = .ok (.iload 4, 2) := dt_Ref_readComes 32
theorem d_Ref_readComes_51 : decode (jm_cod M_Ref_readComes) 51 = .ok (.lload_n 2, 1) := dt_Ref_readComes 33
theorem d_Ref_readComes_52 : decode (jm_cod M_Ref_readComes) 52 = .ok (.lastore, 1) := dt_Ref_readComes 34
theorem d_Ref_readComes_53 : decode (jm_cod M_Ref_readComes) 53 = .ok (.aload_n 0, 1) := dt_Ref_readComes 35
theorem d_Ref_readComes_54 : decode (jm_cod M_Ref_readComes) 54 = .ok (.getfield 193, 3) := dt_Ref_readComes 36
theorem d_Ref_readComes_57 : decode (jm_cod M_Ref_readComes) 57 = .ok (.iload 4, 2) := dt_Ref_readComes 37
theorem d_Ref_readComes_59 : decode (jm_cod M_Ref_readComes) 59 = .ok (.iconst 0, 1) := dt_Ref_readComes 38
theorem d_Ref_readComes_60 : decode (jm_cod M_Ref_readComes) 60 = .ok (.iastore, 1) := dt_Ref_readComes 39
theorem d_Ref_readComes_61 : decode (jm_cod M_Ref_readComes) 61 = .ok (.aload_n 0, 1) := dt_Ref_readComes 40
theorem d_Ref_readComes_62 : decode (jm_cod M_Ref_readComes) 62 = .ok (.getfield 196, 3) := dt_Ref_readComes 41
theorem d_Ref_readComes_65 : decode (jm_cod M_Ref_readComes) 65 = .ok (.iload 4, 2) := dt_Ref_readComes 42
theorem d_Ref_readComes_67 : decode (jm_cod M_Ref_readComes) 67 = .ok (.aload_n 0, 1) := dt_Ref_readComes 43
theorem d_Ref_readComes_68 : decode (jm_cod M_Ref_readComes) 68 = .ok (.getfield 348, 3) := dt_Ref_readComes 44
theorem d_Ref_readComes_71 : decode (jm_cod M_Ref_readComes) 71 = .ok (.iastore, 1) := dt_Ref_readComes 45
theorem d_Ref_readComes_72 : decode (jm_cod M_Ref_readComes) 72 = .ok (.aload_n 0, 1) := dt_Ref_readComes 46
theorem d_Ref_readComes_73 : decode (jm_cod M_Ref_readComes) 73 = .ok (.getfield 199, 3) := dt_Ref_readComes 47
theorem d_Ref_readComes_76 : decode (jm_cod M_Ref_readComes) 76 = .ok (.iload 4, 2) := dt_Ref_readComes 48
theorem d_Ref_readComes_78 : decode (jm_cod M_Ref_readComes) 78 = .ok (.aload_n 0, 1) := dt_Ref_readComes 49
theorem d_Ref_readComes_79 : decode (jm_cod M_Ref_readComes) 79 = .ok (.getfield 208, 3) := dt_Ref_readComes 50
theorem d_Ref_readComes_82 : decode (jm_cod M_Ref_readComes) 82 = .ok (.iload_n 1, 1) := dt_Ref_readComes 51
theorem d_Ref_readComes_83 : decode (jm_cod M_Ref_readComes) 83 = .ok (.iaload, 1) := dt_Ref_readComes 52
theorem d_Ref_readComes_84 : decode (jm_cod M_Ref_readComes) 84 = .ok (.iastore, 1) := dt_Ref_readComes 53
theorem d_Ref_readComes_85 : decode (jm_cod M_Ref_readComes) 85 = .ok (.aload_n 0, 1) := dt_Ref_readComes 54
theorem d_Ref_readComes_86 : decode (jm_cod M_Ref_readComes) 86 = .ok (.getfield 208, 3) := dt_Ref_readComes 55
theorem d_Ref_readComes_89 : decode (jm_cod M_Ref_readComes) 89 = .ok (.iload_n 1, 1) := dt_Ref_readComes 56
theorem d_Ref_readComes_90 : decode (jm_cod M_Ref_readComes) 90 = .ok (.dup2, 1) := dt_Ref_readComes 57
theorem d_Ref_readComes_91 : decode (jm_cod M_Ref_readComes) 91 = .ok (.iaload, 1) := dt_Ref_readComes 58
theorem d_Ref_readComes_92 : decode (jm_cod M_Ref_readComes) 92 = .ok (.iconst 1, 1) := dt_Ref_readComes 59
theorem d_Ref_readComes_93 : decode (jm_cod M_Ref_readComes) 93 = .ok (.iadd, 1) := dt_Ref_readComes 60
theorem d_Ref_readComes_94 : decode (jm_cod M_Ref_readComes) 94 = .ok (.iastore, 1) := dt_Ref_readComes 61
theorem d_Ref_readComes_95 : decode (jm_cod M_Ref_readComes) 95 = .ok (.iconst 1, 1) := dt_Ref_readComes 62
theorem d_Ref_readComes_96 : decode (jm_cod M_Ref_readComes) 96 = .ok (.istore 5, 2) := dt_Ref_readComes 63
theorem d_Ref_readComes_98 : decode (jm_cod M_Ref_readComes) 98 = .ok (.iconst 0, 1) := dt_Ref_readComes 64
theorem d_Ref_readComes_99 : decode (jm_cod M_Ref_readComes) 99 = .ok (.istore 6, 2) := dt_Ref_readComes 65
theorem d_Ref_readComes_101 : decode (jm_cod M_Ref_readComes) 101 = .ok (.iload 6, 2) := dt_Ref_readComes 66
theorem d_Ref_readComes_103 : decode (jm_cod M_Ref_readComes) 103 = .ok (.lload_n 2, 1) := dt_Ref_readComes 67
theorem d_Ref_readComes_104 : decode (jm_cod M_Ref_readComes) 104 = .ok (.invokestatic 321, 3) := dt_Ref_readComes 68
theorem d_Ref_readComes_107 : decode (jm_cod M_Ref_readComes) 107 = .ok (.if_icmp .ge 154, 3) := dt_Ref_readComes 69
theorem d_Ref_readComes_110 : decode (jm_cod M_Ref_readComes) 110 = .ok (.aload_n 0, 1) := dt_Ref_readComes 70
theorem d_Ref_readComes_111 : decode (jm_cod M_Ref_readComes) 111 = .ok (.lload_n 2, 1) := dt_Ref_readComes 71
theorem d_Ref_readComes_112 : decode (jm_cod M_Ref_readComes) 112 = .ok (.iload 6, 2) := dt_Ref_readComes 72
theorem d_Ref_readComes_114 : decode (jm_cod M_Ref_readComes) 114 = .ok (.invokevirtual 494, 3) := dt_Ref_readComes 73
theorem d_Ref_readComes_117 : decode (jm_cod M_Ref_readComes) 117 = .ok (.istore 7, 2) := dt_Ref_readComes 74
theorem d_Ref_readComes_119 : decode (jm_cod M_Ref_readComes) 119 = .ok (.lload_n 2, 1) := dt_Ref_readComes 75
theorem d_Ref_readComes_120 : decode (jm_cod M_Ref_readComes) 120 = .ok (.iload 6, 2) := dt_Ref_readComes 76
theorem d_Ref_readComes_122 : decode (jm_cod M_Ref_readComes) 122 = .ok (.invokestatic 366, 3) := dt_Ref_readComes 77
theorem d_Ref_readComes_125 : decode (jm_cod M_Ref_readComes) 125 = .ok (.istore 8, 2) := dt_Ref_readComes 78
theorem d_Ref_readComes_127 : decode (jm_cod M_Ref_readComes) 127 = .ok (.lload_n 2, 1) := dt_Ref_readComes 79
theorem d_Ref_readComes_128 : decode (jm_cod M_Ref_readComes) 128 = .ok (.invokestatic 318, 3) := dt_Ref_readComes 80
theorem d_Ref_readComes_131 : decode (jm_cod M_Ref_readComes) 131 = .ok (.istore 9, 2) := dt_Ref_readComes 81
theorem d_Ref_readComes_133 : decode (jm_cod M_Ref_readComes) 133 = .ok (.lconst 0, 1) := dt_Ref_readComes 82
theorem d_Ref_readComes_134 : decode (jm_cod M_Ref_readComes) 134 = .ok (.lstore 10, 2) := dt_Ref_readComes 83
theorem d_Ref_readComes_136 : decode (jm_cod M_Ref_readComes) 136 = .ok (.iload 8, 2) := dt_Ref_readComes 84
theorem d_Ref_readComes_138 : decode (jm_cod M_Ref_readComes) 138 = .ok (.istore 12, 2) := dt_Ref_readComes 85
theorem d_Ref_readComes_140 : decode (jm_cod M_Ref_readComes) 140 = .ok (.iload 12, 2) := dt_Ref_readComes 86
theorem d_Ref_readComes_142 : decode (jm_cod M_Ref_readComes) 142 = .ok (.iload 8, 2) := dt_Ref_readComes 87
theorem d_Ref_readComes_144 : decode (jm_cod M_Ref_readComes) 144 = .ok (.iload 8, 2) := dt_Ref_readComes 88
theorem d_Ref_readComes_146 : decode (jm_cod M_Ref_readComes) 146 = .ok (.iload 9, 2) := dt_Ref_readComes 89
theorem d_Ref_readComes_148 : decode (jm_cod M_Ref_readComes) 148 = .ok (.irem, 1) := dt_Ref_readComes 90
theorem d_Ref_readComes_149 : decode (jm_cod M_Ref_readComes) 149 = .ok (.isub, 1) := dt_Ref_readComes 91
theorem d_Ref_readComes_150 : decode (jm_cod M_Ref_readComes) 150 = .ok (.iload 9, 2) := dt_Ref_readComes 92
theorem d_Ref_readComes_152 : decode (jm_cod M_Ref_readComes) 152 = .ok (.iadd, 1) := dt_Ref_readComes 93
theorem d_Ref_readComes_153 : decode (jm_cod M_Ref_readComes) 153 = .ok (.if_icmp .ge 36, 3) := dt_Ref_readComes 94
theorem d_Ref_readComes_156 : decode (jm_cod M_Ref_readComes) 156 = .ok (.iload 7, 2) := dt_Ref_readComes 95
theorem d_Ref_readComes_158 : decode (jm_cod M_Ref_readComes) 158 = .ok (.ifCond .ne 31, 3) := dt_Ref_readComes 96
theorem d_Ref_readComes_161 : decode (jm_cod M_Ref_readComes) 161 = .ok (.lload 10, 2) := dt_Ref_readComes 97
theorem d_Ref_readComes_163 : decode (jm_cod M_Ref_readComes) 163 = .ok (.aload_n 0, 1) := dt_Ref_readComes 98
theorem d_Ref_readComes_164 : decode (jm_cod M_Ref_readComes) 164 = .ok (.getfield 30, 3) := dt_Ref_readComes 99
theorem d_Ref_readComes_167 : decode (jm_cod M_Ref_readComes) 167 = .ok (.iload 12, 2) := dt_Ref_readComes 100
theorem d_Ref_readComes_169 : decode (jm_cod M_Ref_readComes) 169 = .ok (.iaload, 1) := dt_Ref_readComes 101
theorem d_Ref_readComes_170 : decode (jm_cod M_Ref_readComes) 170 = .ok (.i2l, 1) := dt_Ref_readComes 102
theorem d_Ref_readComes_171 : decode (jm_cod M_Ref_readComes) 171 = .ok (.bipush 8, 2) := dt_Ref_readComes 103
theorem d_Ref_readComes_173 : decode (jm_cod M_Ref_readComes) 173 = .ok (.iload 12, 2) := dt_Ref_readComes 104
theorem d_Ref_readComes_175 : decode (jm_cod M_Ref_readComes) 175 = .ok (.bipush 8, 2) := dt_Ref_readComes 105
theorem d_Ref_readComes_177 : decode (jm_cod M_Ref_readComes) 177 = .ok (.irem, 1) := dt_Ref_readComes 106
theorem d_Ref_readComes_178 : decode (jm_cod M_Ref_readComes) 178 = .ok (.imul, 1) := dt_Ref_readComes 107
theorem d_Ref_readComes_179 : decode (jm_cod M_Ref_readComes) 179 = .ok (.lshl, 1) := dt_Ref_readComes 108
theorem d_Ref_readComes_180 : decode (jm_cod M_Ref_readComes) 180 = .ok (.lor, 1) := dt_Ref_readComes 109
theorem d_Ref_readComes_181 : decode (jm_cod M_Ref_readComes) 181 = .ok (.lstore 10, 2) := dt_Ref_readComes 110
theorem d_Ref_readComes_183 : decode (jm_cod M_Ref_readComes) 183 = .ok (.iinc 12 1, 3) := dt_Ref_readComes 111
theorem d_Ref_readComes_186 : decode (jm_cod M_Ref_readComes) 186 = .ok (.goto (-46), 3) := dt_Ref_readComes 112
theorem d_Ref_readComes_189 : decode (jm_cod M_Ref_readComes) 189 = .ok (.aload_n 0, 1) := dt_Ref_readComes 113
theorem d_Ref_readComes_190 : decode (jm_cod M_Ref_readComes) 190 = .ok (.getfield 202, 3) := dt_Ref_readComes 114
theorem d_Ref_readComes_193 : decode (jm_cod M_Ref_readComes) 193 = .ok (.bipush 16, 2) := dt_Ref_readComes 115
theorem d_Ref_readComes_195 : decode (jm_cod M_Ref_readComes) 195 = .ok (.iload 4, 2) := dt_Ref_readComes 116
theorem d_Ref_readComes_197 : decode (jm_cod M_Ref_readComes) 197 = .ok (.imul, 1) := dt_Ref_readComes 117
theorem d_Ref_readComes_198 : decode (jm_cod M_Ref_readComes) 198 = .ok (.iload 6, 2) := dt_Ref_readComes 118
theorem d_Ref_readComes_200 : decode (jm_cod M_Ref_readComes) 200 = .ok (.iadd, 1) := dt_Ref_readComes 119
theorem d_Ref_readComes_201 : decode (jm_cod M_Ref_readComes) 201 = .ok (.lload 10, 2) := dt_Ref_readComes 120
theorem d_Ref_readComes_203 : decode (jm_cod M_Ref_readComes) 203 = .ok (.lastore, 1) := dt_Ref_readComes 121
theorem d_Ref_readComes_204 : decode (jm_cod M_Ref_readComes) 204 = .ok (.aload_n 0, 1) := dt_Ref_readComes 122
theorem d_Ref_readComes_205 : decode (jm_cod M_Ref_readComes) 205 = .ok (.getfield 205, 3) := dt_Ref_readComes 123
theorem d_Ref_readComes_208 : decode (jm_cod M_Ref_readComes) 208 = .ok (.bipush 16, 2) := dt_Ref_readComes 124
theorem d_Ref_readComes_210 : decode (jm_cod M_Ref_readComes) 210 = .ok (.iload 4, 2) := dt_Ref_readComes 125
theorem d_Ref_readComes_212 : decode (jm_cod M_Ref_readComes) 212 = .ok (.imul, 1) := dt_Ref_readComes 126
theorem d_Ref_readComes_213 : decode (jm_cod M_Ref_readComes) 213 = .ok (.iload 6, 2) := dt_Ref_readComes 127
theorem d_Ref_readComes_215 : decode (jm_cod M_Ref_readComes) 215 = .ok (.iadd, 1) := dt_Ref_readComes 128
theorem d_Ref_readComes_216 : decode (jm_cod M_Ref_readComes) 216 = .ok (.iload 7, 2) := dt_Ref_readComes 129
theorem d_Ref_readComes_218 : decode (jm_cod M_Ref_readComes) 218 = .ok (.ifCond .eq 7, 3) := dt_Ref_readComes 130
theorem d_Ref_readComes_221 : decode (jm_cod M_Ref_readComes) 221 = .ok (.iconst 2, 1) := dt_Ref_readComes 131
theorem d_Ref_readComes_222 : decode (jm_cod M_Ref_readComes) 222 = .ok (.goto 15, 3) := dt_Ref_readComes 132
theorem d_Ref_readComes_225 : decode (jm_cod M_Ref_readComes) 225 = .ok (.lload_n 2, 1) := dt_Ref_readComes 133
theorem d_Ref_readComes_226 : decode (jm_cod M_Ref_readComes) 226 = .ok (.invokestatic 329, 3) := dt_Ref_readComes 134
theorem d_Ref_readComes_229 : decode (jm_cod M_Ref_readComes) 229 = .ok (.ifCond .eq 7, 3) := dt_Ref_readComes 135
theorem d_Ref_readComes_232 : decode (jm_cod M_Ref_readComes) 232 = .ok (.iconst 1, 1) := dt_Ref_readComes 136
theorem d_Ref_readComes_233 : decode (jm_cod M_Ref_readComes) 233 = .ok (.goto 4, 3) := dt_Ref_readComes 137
theorem d_Ref_readComes_236 : decode (jm_cod M_Ref_readComes) 236 = .ok (.iconst 0, 1) := dt_Ref_readComes 138
theorem d_Ref_readComes_237 : decode (jm_cod M_Ref_readComes) 237 = .ok (.iastore, 1) := dt_Ref_readComes 139
theorem d_Ref_readComes_238 : decode (jm_cod M_Ref_readComes) 238 = .ok (.iload 5, 2) := dt_Ref_readComes 140
theorem d_Ref_readComes_240 : decode (jm_cod M_Ref_readComes) 240 = .ok (.ifCond .eq 12, 3) := dt_Ref_readComes 141
theorem d_Ref_readComes_243 : decode (jm_cod M_Ref_readComes) 243 = .ok (.iload 7, 2) := dt_Ref_readComes 142
theorem d_Ref_readComes_245 : decode (jm_cod M_Ref_readComes) 245 = .ok (.ifCond .ne 7, 3) := dt_Ref_readComes 143
theorem d_Ref_readComes_248 : decode (jm_cod M_Ref_readComes) 248 = .ok (.iconst 1, 1) := dt_Ref_readComes 144
theorem d_Ref_readComes_249 : decode (jm_cod M_Ref_readComes) 249 = .ok (.goto 4, 3) := dt_Ref_readComes 145
theorem d_Ref_readComes_252 : decode (jm_cod M_Ref_readComes) 252 = .ok (.iconst 0, 1) := dt_Ref_readComes 146
theorem d_Ref_readComes_253 : decode (jm_cod M_Ref_readComes) 253 = .ok (.istore 5, 2) := dt_Ref_readComes 147
theorem d_Ref_readComes_255 : decode (jm_cod M_Ref_readComes) 255 = .ok (.iinc 6 1, 3) := dt_Ref_readComes 148
theorem d_Ref_readComes_258 : decode (jm_cod M_Ref_readComes) 258 = .ok (.goto (-157), 3) := dt_Ref_readComes 149
theorem d_Ref_readComes_261 : decode (jm_cod M_Ref_readComes) 261 = .ok (.lload_n 2, 1) := dt_Ref_readComes 150
theorem d_Ref_readComes_262 : decode (jm_cod M_Ref_readComes) 262 = .ok (.invokestatic 329, 3) := dt_Ref_readComes 151
theorem d_Ref_readComes_265 : decode (jm_cod M_Ref_readComes) 265 = .ok (.ifCond .eq 49, 3) := dt_Ref_readComes 152
theorem d_Ref_readComes_268 : decode (jm_cod M_Ref_readComes) 268 = .ok (.iload 5, 2) := dt_Ref_readComes 153
theorem d_Ref_readComes_270 : decode (jm_cod M_Ref_readComes) 270 = .ok (.ifCond .eq 44, 3) := dt_Ref_readComes 154
theorem d_Ref_readComes_273 : decode (jm_cod M_Ref_readComes) 273 = .ok (.aload_n 0, 1) := dt_Ref_readComes 155
theorem d_Ref_readComes_274 : decode (jm_cod M_Ref_readComes) 274 = .ok (.getfield 220, 3) := dt_Ref_readComes 156
theorem d_Ref_readComes_277 : decode (jm_cod M_Ref_readComes) 277 = .ok (.bipush 64, 2) := dt_Ref_readComes 157
theorem d_Ref_readComes_279 : decode (jm_cod M_Ref_readComes) 279 = .ok (.iload_n 1, 1) := dt_Ref_readComes 158
theorem d_Ref_readComes_280 : decode (jm_cod M_Ref_readComes) 280 = .ok (.imul, 1) := dt_Ref_readComes 159
theorem d_Ref_readComes_281 : decode (jm_cod M_Ref_readComes) 281 = .ok (.lload_n 2, 1) := dt_Ref_readComes 160
theorem d_Ref_readComes_282 : decode (jm_cod M_Ref_readComes) 282 = .ok (.invokestatic 396, 3) := dt_Ref_readComes 161
theorem d_Ref_readComes_285 : decode (jm_cod M_Ref_readComes) 285 = .ok (.iadd, 1) := dt_Ref_readComes 162
theorem d_Ref_readComes_286 : decode (jm_cod M_Ref_readComes) 286 = .ok (.lload_n 2, 1) := dt_Ref_readComes 163
theorem d_Ref_readComes_287 : decode (jm_cod M_Ref_readComes) 287 = .ok (.invokestatic 314, 3) := dt_Ref_readComes 164
theorem d_Ref_readComes_290 : decode (jm_cod M_Ref_readComes) 290 = .ok (.iastore, 1) := dt_Ref_readComes 165
theorem d_Ref_readComes_291 : decode (jm_cod M_Ref_readComes) 291 = .ok (.aload_n 0, 1) := dt_Ref_readComes 166
theorem d_Ref_readComes_292 : decode (jm_cod M_Ref_readComes) 292 = .ok (.getfield 223, 3) := dt_Ref_readComes 167
theorem d_Ref_readComes_295 : decode (jm_cod M_Ref_readComes) 295 = .ok (.bipush 64, 2) := dt_Ref_readComes 168
theorem d_Ref_readComes_297 : decode (jm_cod M_Ref_readComes) 297 = .ok (.iload_n 1, 1) := dt_Ref_readComes 169
theorem d_Ref_readComes_298 : decode (jm_cod M_Ref_readComes) 298 = .ok (.imul, 1) := dt_Ref_readComes 170
theorem d_Ref_readComes_299 : decode (jm_cod M_Ref_readComes) 299 = .ok (.lload_n 2, 1) := dt_Ref_readComes 171
theorem d_Ref_readComes_300 : decode (jm_cod M_Ref_readComes) 300 = .ok (.invokestatic 396, 3) := dt_Ref_readComes 172
theorem d_Ref_readComes_303 : decode (jm_cod M_Ref_readComes) 303 = .ok (.iadd, 1) := dt_Ref_readComes 173
theorem d_Ref_readComes_304 : decode (jm_cod M_Ref_readComes) 304 = .ok (.lload_n 2, 1) := dt_Ref_readComes 174
theorem d_Ref_readComes_305 : decode (jm_cod M_Ref_readComes) 305 = .ok (.invokestatic 321, 3) := dt_Ref_readComes 175
theorem d_Ref_readComes_308 : decode (jm_cod M_Ref_readComes) 308 = .ok (.lload_n 2, 1) := dt_Ref_readComes 176
theorem d_Ref_readComes_309 : decode (jm_cod M_Ref_readComes) 309 = .ok (.invokestatic 318, 3) := dt_Ref_readComes 177
theorem d_Ref_readComes_312 : decode (jm_cod M_Ref_readComes) 312 = .ok (.imul, 1) := dt_Ref_readComes 178
theorem d_Ref_readComes_313 : decode (jm_cod M_Ref_readComes) 313 = .ok (.iastore, 1) := dt_Ref_readComes 179
theorem d_Ref_readComes_314 : decode (jm_cod M_Ref_readComes) 314 = .ok (.return_, 1) := dt_Ref_readComes 180
def tab_Ref_isSpoilt : List (Nat × Instr × Nat) := [(0, .lload_n 1, 1), (1, .iload_n 3, 1), (2, .invokestatic 366, 3), (5, .istore 4, 2), (7, .lload_n 1, 1), (8, .invokestatic 318, 3), (11, .istore 5, 2), (13, .iconst 0, 1), (14, .istore 6, 2), (16, .iload 4, 2), (18, .istore 7, 2), (20, .iload 7, 2), (22, .iload 4, 2), (24, .iload 4, 2), (26, .iload 5, 2), (28, .irem, 1), (29, .isub, 1), (30, .iload 5, 2), (32, .iadd, 1), (33, .if_icmp .ge 31, 3), (36, .iload 6, 2), (38, .ifCond .ne 13, 3), (41, .aload_n 0, 1), (42, .getfield 33, 3), (45, .iload 7, 2), (47, .baload, 1), (48, .ifCond .eq 7, 3), (51, .iconst 1, 1), (52, .goto 4, 3), (55, .iconst 0, 1), (56, .istore 6, 2), (58, .iinc 7 1, 3), (61, .goto (-41), 3), (64, .iload 6, 2), (66, .ireturn, 1)]
theorem dt_Ref_isSpoilt (i : Nat) : decode (jm_cod M_Ref_isSpoilt) (tab_Ref_isSpoilt.getD i (0, .lload_n 1, 1)).1 = .ok ((tab_Ref_isSpoilt.getD i (0, .lload_n 1, 1)).2.1, (tab_Ref_isSpoilt.getD i (0, .lload_n 1, 1)).2.2) := j_tab (by decide +kernel) i
theorem d_Ref_isSpoilt_0 : decode (jm_cod M_Ref_isSpoilt) 0 = .ok (.lload_n 1, 1) := dt_Ref_isSpoilt 0
theorem d_Ref_isSpoilt_1 : decode (jm_cod M_Ref_isSpoilt) 1 = .ok (.iload_n 3, 1) := dt_Ref_isSpoilt 1
theorem d_Ref_isSpoilt_2 : decode (jm_cod M_Ref_isSpoilt) 2 = .ok (.invokestatic 366, 3) := dt_Ref_isSpoilt 2
theorem d_Ref_isSpoilt_5 : decode (jm_cod M_Ref_isSpoilt) 5 = .ok (.istore 4, 2) := dt_Ref_isSpoilt 3
theorem d_Ref_isSpoilt_7 : decode (jm_cod M_Ref_isSpoilt) 7 = .ok (.lload_n 1, 1) := dt_Ref_isSpoilt 4
theorem d_Ref_isSpoilt_8 : decode (jm_cod M_Ref_isSpoilt) 8 = .ok (.invokestatic 318, 3) := dt_Ref_isSpoilt 5
theorem d_Ref_isSpoilt_11 : decode (jm_cod M_Ref_isSpoilt) 11 = .ok (.istore 5, 2) := dt_Ref_isSpoilt 6
theorem d_Ref_isSpoilt_13 : decode (jm_cod M_Ref_isSpoilt) 13 = .ok (.iconst 0, 1) := dt_Ref_isSpoilt 7
theorem d_Ref_isSpoilt_14 : decode (jm_cod M_Ref_isSpoilt) 14 = .ok (.istore 6, 2) := dt_Ref_isSpoilt 8
theorem d_Ref_isSpoilt_16 : decode (jm_cod M_Ref_isSpoilt) 16 = .ok (.iload 4, 2) := dt_Ref_isSpoilt 9
theorem d_Ref_isSpoilt_18 : decode (jm_cod M_Ref_isSpoilt) 18 = .ok (.istore 7, 2) := dt_Ref_isSpoilt 10
theorem d_Ref_isSpoilt_20 : decode (jm_cod M_Ref_isSpoilt) 20 = .ok (.iload 7, 2) := dt_Ref_isSpoilt 11
theorem d_Ref_isSpoilt_22 : decode (jm_cod M_Ref_isSpoilt) 22 = .ok (.iload 4, 2) := dt_Ref_isSpoilt 12
theorem d_Ref_isSpoilt_24 : decode (jm_cod M_Ref_isSpoilt) 24 = .ok (.iload 4, 2) := dt_Ref_isSpoilt 13
theorem d_Ref_isSpoilt_26 : decode (jm_cod M_Ref_isSpoilt) 26 = .ok (.iload 5, 2) := dt_Ref_isSpoilt 14
theorem d_Ref_isSpoilt_28 : decode (jm_cod M_Ref_isSpoilt) 28 = .ok (.irem, 1) := dt_Ref_isSpoilt 15
theorem d_Ref_isSpoilt_29 : decode (jm_cod M_Ref_isSpoilt) 29 = .ok (.isub, 1) := dt_Ref_isSpoilt 16
theorem d_Ref_isSpoilt_30 : decode (jm_cod M_Ref_isSpoilt) 30 = .ok (.iload 5, 2) := dt_Ref_isSpoilt 17
theorem d_Ref_isSpoilt_32 : decode (jm_cod M_Ref_isSpoilt) 32 = .ok (.iadd, 1) := dt_Ref_isSpoilt 18
theorem d_Ref_isSpoilt_33 : decode (jm_cod M_Ref_isSpoilt) 33 = .ok (.if_icmp .ge 31, 3) := dt_Ref_isSpoilt 19
theorem d_Ref_isSpoilt_36 : decode (jm_cod M_Ref_isSpoilt) 36 = .ok (.iload 6, 2) := dt_Ref_isSpoilt 20
theorem d_Ref_isSpoilt_38 : decode (jm_cod M_Ref_isSpoilt) 38 = .ok (.ifCond .ne 13, 3) := dt_Ref_isSpoilt 21
theorem d_Ref_isSpoilt_41 : decode (jm_cod M_Ref_isSpoilt) 41 = .ok (.aload_n 0, 1) := dt_Ref_isSpoilt 22
theorem d_Ref_isSpoilt_42 : decode (jm_cod M_Ref_isSpoilt) 42 = .ok (.getfield 33, 3) := dt_Ref_isSpoilt 23
theorem d_Ref_isSpoilt_45 : decode (jm_cod M_Ref_isSpoilt) 45 = .ok (.iload 7, 2) := dt_Ref_isSpoilt 24
theorem d_Ref_isSpoilt_47 : decode (jm_cod M_Ref_isSpoilt) 47 = .ok (.baload, 1) := dt_Ref_isSpoilt 25
theorem d_Ref_isSpoilt_48 : decode (jm_cod M_Ref_isSpoilt) 48 = .ok (.ifCond .eq 7, 3) := dt_Ref_isSpoilt 26
theorem d_Ref_isSpoilt_51 : decode (jm_cod M_Ref_isSpoilt) 51 = .ok (.iconst 1, 1) := dt_Ref_isSpoilt 27
theorem d_Ref_isSpoilt_52 : decode (jm_cod M_Ref_isSpoilt) 52 = .ok (.goto 4, 3) := dt_Ref_isSpoilt 28
theorem d_Ref_isSpoilt_55 : decode (jm_cod M_Ref_isSpoilt) 55 = .ok (.iconst 0, 1) := dt_Ref_isSpoilt 29
theorem d_Ref_isSpoilt_56 : decode (jm_cod M_Ref_isSpoilt) 56 = .ok (.istore 6, 2) := dt_Ref_isSpoilt 30
theorem d_Ref_isSpoilt_58 : decode (jm_cod M_Ref_isSpoilt) 58 = .ok (.iinc 7 1, 3) := dt_Ref_isSpoilt 31
theorem d_Ref_isSpoilt_61 : decode (jm_cod M_Ref_isSpoilt) 61 = .ok (.goto (-41), 3) := dt_Ref_isSpoilt 32
theorem d_Ref_isSpoilt_64 : decode (jm_cod M_Ref_isSpoilt) 64 = .ok (.iload 6, 2) := dt_Ref_isSpoilt 33
theorem d_Ref_isSpoilt_66 : decode (jm_cod M_Ref_isSpoilt) 66 = .ok (.ireturn, 1) := dt_Ref_isSpoilt 34
def tab_Ref_move : List (Nat × Instr × Nat) := [(0, .iconst 0, 1), (1, .istore_n 1, 1), (2, .iload_n 1, 1), (3, .aload_n 0, 1), (4, .getfield 294, 3), (7, .if_icmp .gt 15, 3), (10, .aload_n 0, 1), (11, .iload_n 1, 1), (12, .iconst 0, 1), (13, .invokevirtual 563, 3), (16, .iinc 1 1, 3), (19, .goto (-17), 3), (22, .iconst 0, 1), (23, .istore_n 1, 1), (24, .iload_n 1, 1), (25, .aload_n 0, 1), (26, .getfield 294, 3), (29, .if_icmp .gt 15, 3), (32, .aload_n 0, 1), (33, .iload_n 1, 1), (34, .iconst 3, 1), (35, .invokevirtual 563, 3), (38, .iinc 1 1, 3), (41, .goto (-17), 3), (44, .iconst 0, 1), (45, .istore_n 1, 1), (46, .iload_n 1, 1), (47, .aload_n 0, 1), (48, .getfield 290, 3), (51, .if_icmp .ge 14, 3), (54, .aload_n 0, 1), (55, .iload_n 1, 1), (56, .invokevirtual 566, 3), (59, .iinc 1 1, 3), (62, .goto (-16), 3), (65, .aload_n 0, 1), (66, .invokevirtual 569, 3), (69, .iconst 0, 1), (70, .istore_n 1, 1), (71, .iload_n 1, 1), (72, .aload_n 0, 1), (73, .getfield 290, 3), (76, .if_icmp .ge 14, 3), (79, .aload_n 0, 1), (80, .iload_n 1, 1), (81, .invokevirtual 572, 3), (84, .iinc 1 1, 3), (87, .goto (-16), 3), (90, .iconst 0, 1), (91, .istore_n 1, 1), (92, .iload_n 1, 1), (93, .aload_n 0, 1), (94, .getfield 290, 3), (97, .if_icmp .ge 14, 3), (100, .aload_n 0, 1), (101, .iload_n 1, 1), (102, .invokevirtual 575, 3), (105, .iinc 1 1, 3), (108, .goto (-16), 3), (111, .return_, 1)]
theorem dt_Ref_move (i : Nat) : decode (jm_cod M_Ref_move) (tab_Ref_move.getD i (0, .iconst 0, 1)).1 = .ok ((tab_Ref_move.getD i (0, .iconst 0, 1)).2.1, (tab_Ref_move.getD i (0, .iconst 0, 1)).2.2) := j_tab (by decide +kernel) i
theorem d_Ref_move_0 : decode (jm_cod M_Ref_move) 0 = .ok (.iconst 0, 1) := dt_Ref_move 0
theorem d_Ref_move_1 : decode (jm_cod M_Ref_move) 1 = .ok (.istore_n 1, 1) := dt_Ref_move 1
theorem d_Ref_move_2 : decode (jm_cod M_Ref_move) 2 = .ok (.iload_n 1, 1) := dt_Ref_move 2
theorem d_Ref_move_3 : decode (jm_cod M_Ref_move) 3 = .ok (.aload_n 0, 1) := dt_Ref_move 3
theorem d_Ref_move_4 : decode (jm_cod M_Ref_move) 4 = .ok (.getfield 294, 3) := dt_Ref_move 4
theorem d_Ref_move_7 : decode (jm_cod M_Ref_move) 7 = .ok (.if_icmp .gt 15, 3) := dt_Ref_move 5
theorem d_Ref_move_10 : decode (jm_cod M_Ref_move) 10 = .ok (.aload_n 0, 1) := dt_Ref_move 6
theorem d_Ref_move_11 : decode (jm_cod M_Ref_move) 11 = .ok (.iload_n 1, 1) := dt_Ref_move 7
theorem d_Ref_move_12 : decode (jm_cod M_Ref_move) 12 = .ok (.iconst 0, 1) := dt_Ref_move 8
theorem d_Ref_move_13 : decode (jm_cod M_Ref_move) 13 = .ok (.invokevirtual 563, 3) := dt_Ref_move 9
theorem d_Ref_move_16 : decode (jm_cod M_Ref_move) 16 = .ok (.iinc 1 1, 3) := dt_Ref_move 10
theorem d_Ref_move_19 : decode (jm_cod M_Ref_move) 19 = .ok (.goto (-17), 3) := dt_Ref_move 11
theorem d_Ref_move_22 : decode (jm_cod M_Ref_move) 22 = .ok (.iconst 0, 1) := dt_Ref_move 12
theorem d_Ref_move_23 : decode (jm_cod M_Ref_move) 23 = .ok (.istore_n 1, 1) := dt_Ref_move 13
theorem d_Ref_move_24 : decode (jm_cod M_Ref_move) 24 = .ok (.iload_n 1, 1) := dt_Ref_move 14
theorem d_Ref_move_25 : decode (jm_cod M_Ref_move) 25 = .ok (.aload_n 0, 1) := dt_Ref_move 15
theorem d_Ref_move_26 : decode (jm_cod M_Ref_move) 26 = .ok (.getfield 294, 3) := dt_Ref_move 16
theorem d_Ref_move_29 : decode (jm_cod M_Ref_move) 29 = .ok (.if_icmp .gt 15, 3) := dt_Ref_move 17
theorem d_Ref_move_32 : decode (jm_cod M_Ref_move) 32 = .ok (.aload_n 0, 1) := dt_Ref_move 18
theorem d_Ref_move_33 : decode (jm_cod M_Ref_move) 33 = .ok (.iload_n 1, 1) := dt_Ref_move 19
theorem d_Ref_move_34 : decode (jm_cod M_Ref_move) 34 = .ok (.iconst 3, 1) := dt_Ref_move 20
theorem d_Ref_move_35 : decode (jm_cod M_Ref_move) 35 = .ok (.invokevirtual 563, 3) := dt_Ref_move 21
theorem d_Ref_move_38 : decode (jm_cod M_Ref_move) 38 = .ok (.iinc 1 1, 3) := dt_Ref_move 22
theorem d_Ref_move_41 : decode (jm_cod M_Ref_move) 41 = .ok (.goto (-17), 3) := dt_Ref_move 23
theorem d_Ref_move_44 : decode (jm_cod M_Ref_move) 44 = .ok (.iconst 0, 1) := dt_Ref_move 24
theorem d_Ref_move_45 : decode (jm_cod M_Ref_move) 45 = .ok (.istore_n 1, 1) := dt_Ref_move 25
theorem d_Ref_move_46 : decode (jm_cod M_Ref_move) 46 = .ok (.iload_n 1, 1) := dt_Ref_move 26
theorem d_Ref_move_47 : decode (jm_cod M_Ref_move) 47 = .ok (.aload_n 0, 1) := dt_Ref_move 27
theorem d_Ref_move_48 : decode (jm_cod M_Ref_move) 48 = .ok (.getfield 290, 3) := dt_Ref_move 28
theorem d_Ref_move_51 : decode (jm_cod M_Ref_move) 51 = .ok (.if_icmp .ge 14, 3) := dt_Ref_move 29
theorem d_Ref_move_54 : decode (jm_cod M_Ref_move) 54 = .ok (.aload_n 0, 1) := dt_Ref_move 30
theorem d_Ref_move_55 : decode (jm_cod M_Ref_move) 55 = .ok (.iload_n 1, 1) := dt_Ref_move 31
theorem d_Ref_move_56 : decode (jm_cod M_Ref_move) 56 = .ok (.invokevirtual 566, 3) := dt_Ref_move 32
theorem d_Ref_move_59 : decode (jm_cod M_Ref_move) 59 = .ok (.iinc 1 1, 3) := dt_Ref_move 33
theorem d_Ref_move_62 : decode (jm_cod M_Ref_move) 62 = .ok (.goto (-16), 3) := dt_Ref_move 34
theorem d_Ref_move_65 : decode (jm_cod M_Ref_move) 65 = .ok (.aload_n 0, 1) := dt_Ref_move 35
theorem d_Ref_move_66 : decode (jm_cod M_Ref_move) 66 = .ok (.invokevirtual 569, 3) := dt_Ref_move 36
theorem d_Ref_move_69 : decode (jm_cod M_Ref_move) 69 = .ok (.iconst 0, 1) := dt_Ref_move 37
theorem d_Ref_move_70 : decode (jm_cod M_Ref_move) 70 = .ok (.istore_n 1, 1) := dt_Ref_move 38
theorem d_Ref_move_71 : decode (jm_cod M_Ref_move) 71 = .ok (.iload_n 1, 1) := dt_Ref_move 39
theorem d_Ref_move_72 : decode (jm_cod M_Ref_move) 72 = .ok (.aload_n 0, 1) := dt_Ref_move 40
theorem d_Ref_move_73 : decode (jm_cod M_Ref_move) 73 = .ok (.getfield 290, 3) := dt_Ref_move 41
theorem d_Ref_move_76 : decode (jm_cod M_Ref_move) 76 = .ok (.if_icmp .ge 14, 3) := dt_Ref_move 42
theorem d_Ref_move_79 : decode (jm_cod M_Ref_move) 79 = .ok (.aload_n 0, 1) := dt_Ref_move 43
theorem d_Ref_move_80 : decode (jm_cod M_Ref_move) 80 = .ok (.iload_n 1, 1) := dt_Ref_move 44
theorem d_Ref_move_81 : decode (jm_cod M_Ref_move) 81 = .ok (.invokevirtual 572, 3) := dt_Ref_move 45
theorem d_Ref_move_84 : decode (jm_cod M_Ref_move) 84 = .ok (.iinc 1 1, 3) := dt_Ref_move 46
theorem d_Ref_move_87 : decode (jm_cod M_Ref_move) 87 = .ok (.goto (-16), 3) := dt_Ref_move 47
theorem d_Ref_move_90 : decode (jm_cod M_Ref_move) 90 = .ok (.iconst 0, 1) := dt_Ref_move 48
theorem d_Ref_move_91 : decode (jm_cod M_Ref_move) 91 = .ok (.istore_n 1, 1) := dt_Ref_move 49
theorem d_Ref_move_92 : decode (jm_cod M_Ref_move) 92 = .ok (.iload_n 1, 1) := dt_Ref_move 50
theorem d_Ref_move_93 : decode (jm_cod M_Ref_move) 93 = .ok (.aload_n 0, 1) := dt_Ref_move 51
theorem d_Ref_move_94 : decode (jm_cod M_Ref_move) 94 = .ok (.getfield 290, 3) := dt_Ref_move 52
theorem d_Ref_move_97 : decode (jm_cod M_Ref_move) 97 = .ok (.if_icmp .ge 14, 3) := dt_Ref_move 53
theorem d_Ref_move_100 : decode (jm_cod M_Ref_move) 100 = .ok (.aload_n 0, 1) := dt_Ref_move 54
theorem d_Ref_move_101 : decode (jm_cod M_Ref_move) 101 = .ok (.iload_n 1, 1) := dt_Ref_move 55
theorem d_Ref_move_102 : decode (jm_cod M_Ref_move) 102 = .ok (.invokevirtual 575, 3) := dt_Ref_move 56
theorem d_Ref_move_105 : decode (jm_cod M_Ref_move) 105 = .ok (.iinc 1 1, 3) := dt_Ref_move 57
theorem d_Ref_move_108 : decode (jm_cod M_Ref_move) 108 = .ok (.goto (-16), 3) := dt_Ref_move 58
theorem d_Ref_move_111 : decode (jm_cod M_Ref_move) 111 = .ok (.return_, 1) := dt_Ref_move 59
def tab_Ref_moveAddress : List (Nat × Instr × Nat) := [(0, .aload_n 0, 1), (1, .iload_n 1, 1), (2, .iload_n 2, 1), (3, .invokevirtual 548, 3), (6, .istore_n 3, 1), (7, .iload_n 3, 1), (8, .iconst (-1), 1), (9, .if_icmp .ne 4, 3), (12, .return_, 1), (13, .aload_n 0, 1), (14, .iconst 0, 1), (15, .iload_n 3, 1), (16, .iload_n 2, 1), (17, .invokevirtual 388, 3), (20, .istore 4, 2), (22, .aload_n 0, 1), (23, .getfield 106, 3), (26, .iconst 4, 1), (27, .iload 4, 2), (29, .imul, 1), (30, .laload, 1), (31, .lstore 5, 2), (33, .aload_n 0, 1), (34, .iload 4, 2), (36, .invokevirtual 473, 3), (39, .aload_n 0, 1), (40, .aload_n 0, 1), (41, .iconst 1, 1), (42, .iload_n 1, 1), (43, .iload_n 2, 1), (44, .invokevirtual 388, 3), (47, .lload 5, 2), (49, .ldc2_w 551, 3), (52, .iload_n 3, 1), (53, .i2l, 1), (54, .lmul, 1), (55, .ladd, 1), (56, .iconst 0, 1), (57, .aload_n 0, 1), (58, .getfield 348, 3), (61, .invokevirtual 469, 3), (64, .iload_n 2, 1), (65, .ifCond .ne 71, 3), (68, .aload_n 0, 1), (69, .getfield 139, 3), (72, .iload_n 1, 1), (73, .iload_n 3, 1), (74, .iastore, 1), (75, .aload_n 0, 1), (76, .getfield 118, 3), (79, .aload_n 0, 1), (80, .getfield 526, 3), (83, .iload_n 3, 1), (84, .iastore, 1), (85, .aload_n 0, 1), (86, .getfield 121, 3), (89, .aload_n 0, 1), (90, .getfield 526, 3), (93, .lload 5, 2), (95, .invokestatic 396, 3), (98, .iastore, 1), (99, .aload_n 0, 1), (100, .getfield 124, 3), (103, .aload_n 0, 1), (104, .getfield 526, 3), (107, .iload_n 1, 1), (108, .iastore, 1), (109, .aload_n 0, 1), (110, .getfield 127, 3), (113, .aload_n 0, 1), (114, .getfield 526, 3), (117, .lload 5, 2), (119, .invokestatic 321, 3), (122, .iastore, 1), (123, .aload_n 0, 1), (124, .dup, 1), (125, .getfield 526, 3), (128, .iconst 1, 1), (129, .iadd, 1), (130, .putfield 526, 3), (133, .goto 54, 3), (136, .aload_n 0, 1), (137, .getfield 142, 3), (140, .iload_n 1, 1), (141, .iload_n 3, 1), (142, .iastore, 1), (143, .aload_n 0, 1), (144, .getfield 130, 3), (147, .aload_n 0, 1), (148, .getfield 529, 3), (151, .iload_n 3, 1), (152, .iastore, 1), (153, .aload_n 0, 1), (154, .getfield 133, 3), (157, .aload_n 0, 1), (158, .getfield 529, 3), (161, .lload 5, 2), (163, .invokestatic 396, 3), (166, .iastore, 1), (167, .aload_n 0, 1), (168, .getfield 136, 3), (171, .aload_n 0, 1), (172, .getfield 529, 3), (175, .iload_n 1, 1), (176, .iastore, 1), (177, .aload_n 0, 1), (178, .dup, 1), (179, .getfield 529, 3), (182, .iconst 1, 1), (183, .iadd, 1), (184, .putfield 529, 3), (187, .return_, 1)]
theorem dt_Ref_moveAddress (i : Nat) : decode (jm_cod M_Ref_moveAddress) (tab_Ref_moveAddress.getD i (0, .aload_n 0, 1)).1 = .ok ((tab_Ref_moveAddress.getD i (0, .aload_n 0, 1)).2.1, (tab_Ref_moveAddress.getD i (0, .aload_n 0, 1)).2.2) := j_tab (by decide +kernel) i
theorem d_Ref_moveAddress_0 : decode (jm_cod M_Ref_moveAddress) 0 = .ok (.aload_n 0, 1) := dt_Ref_moveAddress 0
theorem d_Ref_moveAddress_1 : decode (jm_cod M_Ref_moveAddress) 1 = .ok (.iload_n 1, 1) := dt_Ref_moveAddress 1
theorem d_Ref_moveAddress_2 : decode (jm_cod M_Ref_moveAddress) 2 = .ok (.iload_n 2, 1) := dt_Ref_moveAddress 2
theorem d_Ref_moveAddress_3 : decode (jm_cod M_Ref_moveAddress) 3 = .ok (.invokevirtual 548, 3) := dt_Ref_moveAddress 3
theorem d_Ref_moveAddress_6 : decode (jm_cod M_Ref_moveAddress) 6 = .ok (.istore_n 3, 1) := dt_Ref_moveAddress 4
theorem d_Ref_moveAddress_7 : decode (jm_cod M_Ref_moveAddress) 7 = .ok (.iload_n 3, 1) := dt_Ref_moveAddress 5
theorem d_Ref_moveAddress_8 : decode (jm_cod M_Ref_moveAddress) 8 = .ok (.iconst (-1), 1) := dt_Ref_moveAddress 6
theorem d_Ref_moveAddress_9 : decode (jm_cod M_Ref_moveAddress) 9 = .ok (.if_icmp .ne 4, 3) := dt_Ref_moveAddress 7
theorem d_Ref_moveAddress_12 : decode (jm_cod M_Ref_moveAddress) 12 = .ok (.return_, 1) := dt_Ref_moveAddress 8
theorem d_Ref_moveAddress_13 : decode (jm_cod M_Ref_moveAddress) 13 = .ok (.aload_n 0, 1) := dt_Ref_moveAddress 9
theorem d_Ref_moveAddress_14 : decode (jm_cod M_Ref_moveAddress) 14 = .ok (.iconst 0, 1) := dt_Ref_moveAddress 10
theorem d_Ref_moveAddress_15 : decode (jm_cod M_Ref_moveAddress) 15 = .ok (.iload_n 3, 1) := dt_Ref_moveAddress 11
theorem d_Ref_moveAddress_16 : decode (jm_cod M_Ref_moveAddress) 16 = .ok (.iload_n 2, 1) := dt_Ref_moveAddress 12
theorem d_Ref_moveAddress_17 : decode (jm_cod M_Ref_moveAddress) 17 = .ok (.invokevirtual 388, 3) := dt_Ref_moveAddress 13
theorem d_Ref_moveAddress_20 : decode (jm_cod M_Ref_moveAddress) 20 = .ok (.istore 4, 2) := dt_Ref_moveAddress 14
theorem d_Ref_moveAddress_22 : decode (jm_cod M_Ref_moveAddress) 22 = .ok (.aload_n 0, 1) := dt_Ref_moveAddress 15
theorem d_Ref_moveAddress_23 : decode (jm_cod M_Ref_moveAddress) 23 = .ok (.getfield 106, 3) := dt_Ref_moveAddress 16
theorem d_Ref_moveAddress_26 : decode (jm_cod M_Ref_moveAddress) 26 = .ok (.iconst 4, 1) := dt_Ref_moveAddress 17
theorem d_Ref_moveAddress_27 : decode (jm_cod M_Ref_moveAddress) 27 = .ok (.iload 4, 2) := dt_Ref_moveAddress 18
theorem d_Ref_moveAddress_29 : decode (jm_cod M_Ref_moveAddress) 29 = .ok (.imul, 1) := dt_Ref_moveAddress 19
theorem d_Ref_moveAddress_30 : decode (jm_cod M_Ref_moveAddress) 30 = .ok (.laload, 1) := dt_Ref_moveAddress 20
theorem d_Ref_moveAddress_31 : decode (jm_cod M_Ref_moveAddress) 31 = .ok (.lstore 5, 2) := dt_Ref_moveAddress 21
theorem d_Ref_moveAddress_33 : decode (jm_cod M_Ref_moveAddress) 33 = .ok (.aload_n 0, 1) := dt_Ref_moveAddress 22
theorem d_Ref_moveAddress_34 : decode (jm_cod M_Ref_moveAddress) 34 = .ok (.iload 4, 2) := dt_Ref_moveAddress 23
theorem d_Ref_moveAddress_36 : decode (jm_cod M_Ref_moveAddress) 36 = .ok (.invokevirtual 473, 3) := dt_Ref_moveAddress 24
theorem d_Ref_moveAddress_39 : decode (jm_cod M_Ref_moveAddress) 39 = .ok (.aload_n 0, 1) := dt_Ref_moveAddress 25
theorem d_Ref_moveAddress_40 : decode (jm_cod M_Ref_moveAddress) 40 = .ok (.aload_n 0, 1) := dt_Ref_moveAddress 26
theorem d_Ref_moveAddress_41 : decode (jm_cod M_Ref_moveAddress) 41 = .ok (.iconst 1, 1) := dt_Ref_moveAddress 27
theorem d_Ref_moveAddress_42 : decode (jm_cod M_Ref_moveAddress) 42 = .ok (.iload_n 1, 1) := dt_Ref_moveAddress 28
theorem d_Ref_moveAddress_43 : decode (jm_cod M_Ref_moveAddress) 43 = .ok (.iload_n 2, 1) := dt_Ref_moveAddress 29
theorem d_Ref_moveAddress_44 : decode (jm_cod M_Ref_moveAddress) 44 = .ok (.invokevirtual 388, 3) := dt_Ref_moveAddress 30
theorem d_Ref_moveAddress_47 : decode (jm_cod M_Ref_moveAddress) 47 = .ok (.lload 5, 2) := dt_Ref_moveAddress 31
theorem d_Ref_moveAddress_49 : decode (jm_cod M_Ref_moveAddress) 49 = .ok (.ldc2_w 551, 3) := dt_Ref_moveAddress 32
theorem d_Ref_moveAddress_52 : decode (jm_cod M_Ref_moveAddress) 52 = .ok (.iload_n 3, 1) := dt_Ref_moveAddress 33
theorem d_Ref_moveAddress_53 : decode (jm_cod M_Ref_moveAddress) 53 = .ok (.i2l, 1) := dt_Ref_moveAddress 34
theorem d_Ref_moveAddress_54 : decode (jm_cod M_Ref_moveAddress) 54 = .ok (.lmul, 1) := dt_Ref_moveAddress 35
theorem d_Ref_moveAddress_55 : decode (jm_cod M_Ref_moveAddress) 55 = .ok (.ladd, 1) := dt_Ref_moveAddress 36
theorem d_Ref_moveAddress_56 : decode (jm_cod M_Ref_moveAddress) 56 = .ok (.iconst 0, 1) := dt_Ref_moveAddress 37
theorem d_Ref_moveAddress_57 : decode (jm_cod M_Ref_moveAddress) 57 = .ok (.aload_n 0, 1) := dt_Ref_moveAddress 38
theorem d_Ref_moveAddress_58 : decode (jm_cod M_Ref_moveAddress) 58 = .ok (.getfield 348, 3) := dt_Ref_moveAddress 39
theorem d_Ref_moveAddress_61 : decode (jm_cod M_Ref_moveAddress) 61 = .ok (.invokevirtual 469, 3) := dt_Ref_moveAddress 40
theorem d_Ref_moveAddress_64 : decode (jm_cod M_Ref_moveAddress) 64 = .ok (.iload_n 2, 1) := dt_Ref_moveAddress 41
theorem d_Ref_moveAddress_65 : decode (jm_cod M_Ref_moveAddress) 65 = .ok (.ifCond .ne 71, 3) := dt_Ref_moveAddress 42
theorem d_Ref_moveAddress_68 : decode (jm_cod M_Ref_moveAddress) 68 = .ok (.aload_n 0, 1) := dt_Ref_moveAddress 43
theorem d_Ref_moveAddress_69 : decode (jm_cod M_Ref_moveAddress) 69 = .ok (.getfield 139, 3) := dt_Ref_moveAddress 44
theorem d_Ref_moveAddress_72 : decode (jm_cod M_Ref_moveAddress) 72 = .ok (.iload_n 1, 1) := dt_Ref_moveAddress 45
theorem d_Ref_moveAddress_73 : decode (jm_cod M_Ref_moveAddress) 73 = .ok (.iload_n 3, 1) := dt_Ref_moveAddress 46
theorem d_Ref_moveAddress_74 : decode (jm_cod M_Ref_moveAddress) 74 = .ok (.iastore, 1) := dt_Ref_moveAddress 47
theorem d_Ref_moveAddress_75 : decode (jm_cod M_Ref_moveAddress) 75 = .ok (.aload_n 0, 1) := dt_Ref_moveAddress 48
theorem d_Ref_moveAddress_76 : decode (jm_cod M_Ref_moveAddress) 76 = .ok (.getfield 118, 3) := dt_Ref_moveAddress 49
theorem d_Ref_moveAddress_79 : decode (jm_cod M_Ref_moveAddress) 79 = .ok (.aload_n 0, 1) := dt_Ref_moveAddress 50
theorem d_Ref_moveAddress_80 : decode (jm_cod M_Ref_moveAddress) 80 = .ok (.getfield 526, 3) := dt_Ref_moveAddress 51
theorem d_Ref_moveAddress_83 : decode (jm_cod M_Ref_moveAddress) 83 = .ok (.iload_n 3, 1) := dt_Ref_moveAddress 52
theorem d_Ref_moveAddress_84 : decode (jm_cod M_Ref_moveAddress) 84 = .ok (.iastore, 1) := dt_Ref_moveAddress 53
theorem d_Ref_moveAddress_85 : decode (jm_cod M_Ref_moveAddress) 85 = .ok (.aload_n 0, 1) := dt_Ref_moveAddress 54
theorem d_Ref_moveAddress_86 : decode (jm_cod M_Ref_moveAddress) 86 = .ok (.getfield 121, 3) := dt_Ref_moveAddress 55
theorem d_Ref_moveAddress_89 : decode (jm_cod M_Ref_moveAddress) 89 = .ok (.aload_n 0, 1) := dt_Ref_moveAddress 56
theorem d_Ref_moveAddress_90 : decode (jm_cod M_Ref_moveAddress) 90 = .ok (.getfield 526, 3) := dt_Ref_moveAddress 57
theorem d_Ref_moveAddress_93 : decode (jm_cod M_Ref_moveAddress) 93 = .ok (.lload 5, 2) := dt_Ref_moveAddress 58
theorem d_Ref_moveAddress_95 : decode (jm_cod M_Ref_moveAddress) 95 = .ok (.invokestatic 396, 3) := dt_Ref_moveAddress 59
theorem d_Ref_moveAddress_98 : decode (jm_cod M_Ref_moveAddress) 98 = .ok (.iastore, 1) := dt_Ref_moveAddress 60
theorem d_Ref_moveAddress_99 : decode (jm_cod M_Ref_moveAddress) 99 = .ok (.aload_n 0, 1) := dt_Ref_moveAddress 61
theorem d_Ref_moveAddress_100 : decode (jm_cod M_Ref_moveAddress) 100 = .ok (.getfield 124, 3) := dt_Ref_moveAddress 62
theorem d_Ref_moveAddress_103 : decode (jm_cod M_Ref_moveAddress) 103 = .ok (.aload_n 0, 1) := dt_Ref_moveAddress 63
theorem d_Ref_moveAddress_104 : decode (jm_cod M_Ref_moveAddress) 104 = .ok (.getfield 526, 3) := dt_Ref_moveAddress 64
theorem d_Ref_moveAddress_107 : decode (jm_cod M_Ref_moveAddress) 107 = .ok (.iload_n 1, 1) := dt_Ref_moveAddress 65
theorem d_Ref_moveAddress_108 : decode (jm_cod M_Ref_moveAddress) 108 = .ok (.iastore, 1) := dt_Ref_moveAddress 66
theorem d_Ref_moveAddress_109 : decode (jm_cod M_Ref_moveAddress) 109 = .ok (.aload_n 0, 1) := dt_Ref_moveAddress 67
theorem d_Ref_moveAddress_110 : decode (jm_cod M_Ref_moveAddress) 110 = .ok (.getfield 127, 3) := dt_Ref_moveAddress 68
theorem d_Ref_moveAddress_113 : decode (jm_cod M_Ref_moveAddress) 113 = .ok (.aload_n 0, 1) := dt_Ref_moveAddress 69
theorem d_Ref_moveAddress_114 : decode (jm_cod M_Ref_moveAddress) 114 = .ok (.getfield 526, 3) := dt_Ref_moveAddress 70
theorem d_Ref_moveAddress_117 : decode (jm_cod M_Ref_moveAddress) 117 = .ok (.lload 5, 2) := dt_Ref_moveAddress 71
theorem d_Ref_moveAddress_119 : decode (jm_cod M_Ref_moveAddress) 119 = .ok (.invokestatic 321, 3) := dt_Ref_moveAddress 72
theorem d_Ref_moveAddress_122 : decode (jm_cod M_Ref_moveAddress) 122 = .ok (.iastore, 1) := dt_Ref_moveAddress 73
theorem d_Ref_moveAddress_123 : decode (jm_cod M_Ref_moveAddress) 123 = .ok (.aload_n 0, 1) := dt_Ref_moveAddress 74
theorem d_Ref_moveAddress_124 : decode (jm_cod M_Ref_moveAddress) 124 = .ok (.dup, 1) := dt_Ref_moveAddress 75
theorem d_Ref_moveAddress_125 : decode (jm_cod M_Ref_moveAddress) 125 = .ok (.getfield 526, 3) := dt_Ref_moveAddress 76
theorem d_Ref_moveAddress_128 : decode (jm_cod M_Ref_moveAddress) 128 = .ok (.iconst 1, 1) := dt_Ref_moveAddress 77
theorem d_Ref_moveAddress_129 : decode (jm_cod M_Ref_moveAddress) 129 = .ok (.iadd, 1) := dt_Ref_moveAddress 78
theorem d_Ref_moveAddress_130 : decode (jm_cod M_Ref_moveAddress) 130 = .ok (.putfield 526, 3) := dt_Ref_moveAddress 79
theorem d_Ref_moveAddress_133 : decode (jm_cod M_Ref_moveAddress) 133 = .ok (.goto 54, 3) := dt_Ref_moveAddress 80
theorem d_Ref_moveAddress_136 : decode (jm_cod M_Ref_moveAddress) 136 = .ok (.aload_n 0, 1) := dt_Ref_moveAddress 81
theorem d_Ref_moveAddress_137 : decode (jm_cod M_Ref_moveAddress) 137 = .ok (.getfield 142, 3) := dt_Ref_moveAddress 82
theorem d_Ref_moveAddress_140 : decode (jm_cod M_Ref_moveAddress) 140 = .ok (.iload_n 1, 1) := dt_Ref_moveAddress 83
theorem d_Ref_moveAddress_141 : decode (jm_cod M_Ref_moveAddress) 141 = .ok (.iload_n 3, 1) := dt_Ref_moveAddress 84
theorem d_Ref_moveAddress_142 : decode (jm_cod M_Ref_moveAddress) 142 = .ok (.iastore, 1) := dt_Ref_moveAddress 85
theorem d_Ref_moveAddress_143 : decode (jm_cod M_Ref_moveAddress) 143 = .ok (.aload_n 0, 1) := dt_Ref_moveAddress 86
theorem d_Ref_moveAddress_144 : decode (jm_cod M_Ref_moveAddress) 144 = .ok (.getfield 130, 3) := dt_Ref_moveAddress 87
theorem d_Ref_moveAddress_147 : decode (jm_cod M_Ref_moveAddress) 147 = .ok (.aload_n 0, 1) := dt_Ref_moveAddress 88
theorem d_Ref_moveAddress_148 : decode (jm_cod M_Ref_moveAddress) 148 = .ok (.getfield 529, 3) := dt_Ref_moveAddress 89
theorem d_Ref_moveAddress_151 : decode (jm_cod M_Ref_moveAddress) 151 = .ok (.iload_n 3, 1) := dt_Ref_moveAddress 90
theorem d_Ref_moveAddress_152 : decode (jm_cod M_Ref_moveAddress) 152 = .ok (.iastore, 1) := dt_Ref_moveAddress 91
theorem d_Ref_moveAddress_153 : decode (jm_cod M_Ref_moveAddress) 153 = .ok (.aload_n 0, 1) := dt_Ref_moveAddress 92
theorem d_Ref_moveAddress_154 : decode (jm_cod M_Ref_moveAddress) 154 = .ok (.getfield 133, 3) := dt_Ref_moveAddress 93
theorem d_Ref_moveAddress_157 : decode (jm_cod M_Ref_moveAddress) 157 = .ok (.aload_n 0, 1) := dt_Ref_moveAddress 94
theorem d_Ref_moveAddress_158 : decode (jm_cod M_Ref_moveAddress) 158 = .ok (.getfield 529, 3) := dt_Ref_moveAddress 95
theorem d_Ref_moveAddress_161 : decode (jm_cod M_Ref_moveAddress) 161 = .ok (.lload 5, 2) := dt_Ref_moveAddress 96
theorem d_Ref_moveAddress_163 : decode (jm_cod M_Ref_moveAddress) 163 = .ok (.invokestatic 396, 3) := dt_Ref_moveAddress 97
theorem d_Ref_moveAddress_166 : decode (jm_cod M_Ref_moveAddress) 166 = .ok (.iastore, 1) := dt_Ref_moveAddress 98
theorem d_Ref_moveAddress_167 : decode (jm_cod M_Ref_moveAddress) 167 = .ok (.aload_n 0, 1) := dt_Ref_moveAddress 99
theorem d_Ref_moveAddress_168 : decode (jm_cod M_Ref_moveAddress) 168 = .ok (.getfield 136, 3) := dt_Ref_moveAddress 100
theorem d_Ref_moveAddress_171 : decode (jm_cod M_Ref_moveAddress) 171 = .ok (.aload_n 0, 1) := dt_Ref_moveAddress 101
theorem d_Ref_moveAddress_172 : decode (jm_cod M_Ref_moveAddress) 172 = .ok (.getfield 529, 3) := dt_Ref_moveAddress 102
theorem d_Ref_moveAddress_175 : decode (jm_cod M_Ref_moveAddress) 175 = .ok (.iload_n 1, 1) := dt_Ref_moveAddress 103
theorem d_Ref_moveAddress_176 : decode (jm_cod M_Ref_moveAddress) 176 = .ok (.iastore, 1) := dt_Ref_moveAddress 104
theorem d_Ref_moveAddress_177 : decode (jm_cod M_Ref_moveAddress) 177 = .ok (.aload_n 0, 1) := dt_Ref_moveAddress 105
theorem d_Ref_moveAddress_178 : decode (jm_cod M_Ref_moveAddress) 178 = .ok (.dup, 1) := dt_Ref_moveAddress 106
theorem d_Ref_moveAddress_179 : decode (jm_cod M_Ref_moveAddress) 179 = .ok (.getfield 529, 3) := dt_Ref_moveAddress 107
theorem d_Ref_moveAddress_182 : decode (jm_cod M_Ref_moveAddress) 182 = .ok (.iconst 1, 1) := dt_Ref_moveAddress 108
theorem d_Ref_moveAddress_183 : decode (jm_cod M_Ref_moveAddress) 183 = .ok (.iadd, 1) := dt_Ref_moveAddress 109
theorem d_Ref_moveAddress_184 : decode (jm_cod M_Ref_moveAddress) 184 = .ok (.putfield 529, 3) := dt_Ref_moveAddress 110
theorem d_Ref_moveAddress_187 : decode (jm_cod M_Ref_moveAddress) 187 = .ok (.return_, 1) := dt_Ref_moveAddress 111
def tab_Ref_choose : List (Nat × Instr × Nat) := [(0, .iload_n 2, 1), (1, .ifCond .ne 12, 3), (4, .aload_n 0, 1), (5, .getfield 139, 3), (8, .iload_n 1, 1), (9, .iaload, 1), (10, .goto 9, 3), (13, .aload_n 0, 1), (14, .getfield 142, 3), (17, .iload_n 1, 1), (18, .iaload, 1), (19, .istore_n 3, 1), (20, .iconst (-1), 1), (21, .istore 4, 2), (23, .iconst 1, 1), (24, .istore 5, 2), (26, .iload 5, 2), (28, .aload_n 0, 1), (29, .getfield 290, 3), (32, .if_icmp .gt 75, 3), (35, .iload_n 3, 1), (36, .iload 5, 2), (38, .iadd, 1), (39, .aload_n 0, 1), (40, .getfield 290, 3), (43, .irem, 1), (44, .istore 6, 2), (46, .iload_n 2, 1), (47, .ifCond .ne 13, 3), (50, .aload_n 0, 1), (51, .iload 6, 2), (53, .iload_n 1, 1), (54, .invokevirtual 538, 3), (57, .goto 10, 3), (60, .aload_n 0, 1), (61, .iload 6, 2), (63, .iload_n 1, 1), (64, .invokevirtual 541, 3), (67, .istore 7, 2), (69, .iload 7, 2), (71, .ifCond .eq 26, 3), (74, .iload 4, 2), (76, .iconst (-1), 1), (77, .if_icmp .eq 15, 3), (80, .aload_n 0, 1), (81, .iload 6, 2), (83, .iload 4, 2), (85, .iload_n 2, 1), (86, .invokevirtual 544, 3), (89, .ifCond .eq 8, 3), (92, .iload 6, 2), (94, .goto 5, 3), (97, .iload 4, 2), (99, .istore 4, 2), (101, .iinc 5 1, 3), (104, .goto (-78), 3), (107, .iload 4, 2), (109, .ireturn, 1)]
theorem dt_Ref_choose (i : Nat) : decode (jm_cod M_Ref_choose) (tab_Ref_choose.getD i (0, .iload_n 2, 1)).1 = .ok ((tab_Ref_choose.getD i (0, .iload_n 2, 1)).2.1, (tab_Ref_choose.getD i (0, .iload_n 2, 1)).2.2) := j_tab (by decide +kernel) i
theorem d_Ref_choose_0 : decode (jm_cod M_Ref_choose) 0 = .ok (.iload_n 2, 1) := dt_Ref_choose 0
theorem d_Ref_choose_1 : decode (jm_cod M_Ref_choose) 1 = .ok (.ifCond .ne 12, 3) := dt_Ref_choose 1
theorem d_Ref_choose_4 : decode (jm_cod M_Ref_choose) 4 = .ok (.aload_n 0, 1) := dt_Ref_choose 2
theorem d_Ref_choose_5 : decode (jm_cod M_Ref_choose) 5 = .ok (.getfield 139, 3) := dt_Ref_choose 3
theorem d_Ref_choose_8 : decode (jm_cod M_Ref_choose) 8 = .ok (.iload_n 1, 1) := dt_Ref_choose 4
theorem d_Ref_choose_9 : decode (jm_cod M_Ref_choose) 9 = .ok (.iaload, 1) := dt_Ref_choose 5
theorem d_Ref_choose_10 : decode (jm_cod M_Ref_choose) 10 = .ok (.goto 9, 3) := dt_Ref_choose 6
theorem d_Ref_choose_13 : decode (jm_cod M_Ref_choose) 13 = .ok (.aload_n 0, 1) := dt_Ref_choose 7
theorem d_Ref_choose_14 : decode (jm_cod M_Ref_choose) 14 = .ok (.getfield 142, 3) := dt_Ref_choose 8
theorem d_Ref_choose_17 : decode (jm_cod M_Ref_choose) 17 = .ok (.iload_n 1, 1) := dt_Ref_choose 9
theorem d_Ref_choose_18 : decode (jm_cod M_Ref_choose) 18 = .ok (.iaload, 1) := dt_Ref_choose 10
theorem d_Ref_choose_19 : decode (jm_cod M_Ref_choose) 19 = .ok (.istore_n 3, 1) := dt_Ref_choose 11
theorem d_Ref_choose_20 : decode (jm_cod M_Ref_choose) 20 = .ok (.iconst (-1), 1) := dt_Ref_choose 12
theorem d_Ref_choose_21 : decode (jm_cod M_Ref_choose) 21 = .ok (.istore 4, 2) := dt_Ref_choose 13
theorem d_Ref_choose_23 : decode (jm_cod M_Ref_choose) 23 = .ok (.iconst 1, 1) := dt_Ref_choose 14
theorem d_Ref_choose_24 : decode (jm_cod M_Ref_choose) 24 = .ok (.istore 5, 2) := dt_Ref_choose 15
theorem d_Ref_choose_26 : decode (jm_cod M_Ref_choose) 26 = .ok (.iload 5, 2) := dt_Ref_choose 16
theorem d_Ref_choose_28 : decode (jm_cod M_Ref_choose) 28 = .ok (.aload_n 0, 1) := dt_Ref_choose 17
theorem d_Ref_choose_29 : decode (jm_cod M_Ref_choose) 29 = .ok (.getfield 290, 3) := dt_Ref_choose 18
theorem d_Ref_choose_32 : decode (jm_cod M_Ref_choose) 32 = .ok (.if_icmp .gt 75, 3) := dt_Ref_choose 19
theorem d_Ref_choose_35 : decode (jm_cod M_Ref_choose) 35 = .ok (.iload_n 3, 1) := dt_Ref_choose 20
theorem d_Ref_choose_36 : decode (jm_cod M_Ref_choose) 36 = .ok (.iload 5, 2) := dt_Ref_choose 21
theorem d_Ref_choose_38 : decode (jm_cod M_Ref_choose) 38 = .ok (.iadd, 1) := dt_Ref_choose 22
theorem d_Ref_choose_39 : decode (jm_cod M_Ref_choose) 39 = .ok (.aload_n 0, 1) := dt_Ref_choose 23
theorem d_Ref_choose_40 : decode (jm_cod M_Ref_choose) 40 = .ok (.getfield 290, 3) := dt_Ref_choose 24
theorem d_Ref_choose_43 : decode (jm_cod M_Ref_choose) 43 = .ok (.irem, 1) := dt_Ref_choose 25
theorem d_Ref_choose_44 : decode (jm_cod M_Ref_choose) 44 = .ok (.istore 6, 2) := dt_Ref_choose 26
theorem d_Ref_choose_46 : decode (jm_cod M_Ref_choose) 46 = .ok (.iload_n 2, 1) := dt_Ref_choose 27
theorem d_Ref_choose_47 : decode (jm_cod M_Ref_choose) 47 = .ok (.ifCond .ne 13, 3) := dt_Ref_choose 28
theorem d_Ref_choose_50 : decode (jm_cod M_Ref_choose) 50 = .ok (.aload_n 0, 1) := dt_Ref_choose 29
theorem d_Ref_choose_51 : decode (jm_cod M_Ref_choose) 51 = .ok (.iload 6, 2) := dt_Ref_choose 30
theorem d_Ref_choose_53 : decode (jm_cod M_Ref_choose) 53 = .ok (.iload_n 1, 1) := dt_Ref_choose 31
theorem d_Ref_choose_54 : decode (jm_cod M_Ref_choose) 54 = .ok (.invokevirtual 538, 3) := dt_Ref_choose 32
theorem d_Ref_choose_57 : decode (jm_cod M_Ref_choose) 57 = .ok (.goto 10, 3) := dt_Ref_choose 33
theorem d_Ref_choose_60 : decode (jm_cod M_Ref_choose) 60 = .ok (.aload_n 0, 1) := dt_Ref_choose 34
theorem d_Ref_choose_61 : decode (jm_cod M_Ref_choose) 61 = .ok (.iload 6, 2) := dt_Ref_choose 35
theorem d_Ref_choose_63 : decode (jm_cod M_Ref_choose) 63 = .ok (.iload_n 1, 1) := dt_Ref_choose 36
theorem d_Ref_choose_64 : decode (jm_cod M_Ref_choose) 64 = .ok (.invokevirtual 541, 3) := dt_Ref_choose 37
theorem d_Ref_choose_67 : decode (jm_cod M_Ref_choose) 67 = .ok (.istore 7, 2) := dt_Ref_choose 38
theorem d_Ref_choose_69 : decode (jm_cod M_Ref_choose) 69 = .ok (.iload 7, 2) := dt_Ref_choose 39
theorem d_Ref_choose_71 : decode (jm_cod M_Ref_choose) 71 = .ok (.ifCond .eq 26, 3) := dt_Ref_choose 40
theorem d_Ref_choose_74 : decode (jm_cod M_Ref_choose) 74 = .ok (.iload 4, 2) := dt_Ref_choose 41
theorem d_Ref_choose_76 : decode (jm_cod M_Ref_choose) 76 = .ok (.iconst (-1), 1) := dt_Ref_choose 42
theorem d_Ref_choose_77 : decode (jm_cod M_Ref_choose) 77 = .ok (.if_icmp .eq 15, 3) := dt_Ref_choose 43
theorem d_Ref_choose_80 : decode (jm_cod M_Ref_choose) 80 = .ok (.aload_n 0, 1) := dt_Ref_choose 44
theorem d_Ref_choose_81 : decode (jm_cod M_Ref_choose) 81 = .ok (.iload 6, 2) := dt_Ref_choose 45
theorem d_Ref_choose_83 : decode (jm_cod M_Ref_choose) 83 = .ok (.iload 4, 2) := dt_Ref_choose 46
theorem d_Ref_choose_85 : decode (jm_cod M_Ref_choose) 85 = .ok (.iload_n 2, 1) := dt_Ref_choose 47
theorem d_Ref_choose_86 : decode (jm_cod M_Ref_choose) 86 = .ok (.invokevirtual 544, 3) := dt_Ref_choose 48
theorem d_Ref_choose_89 : decode (jm_cod M_Ref_choose) 89 = .ok (.ifCond .eq 8, 3) := dt_Ref_choose 49
theorem d_Ref_choose_92 : decode (jm_cod M_Ref_choose) 92 = .ok (.iload 6, 2) := dt_Ref_choose 50
theorem d_Ref_choose_94 : decode (jm_cod M_Ref_choose) 94 = .ok (.goto 5, 3) := dt_Ref_choose 51
theorem d_Ref_choose_97 : decode (jm_cod M_Ref_choose) 97 = .ok (.iload 4, 2) := dt_Ref_choose 52
theorem d_Ref_choose_99 : decode (jm_cod M_Ref_choose) 99 = .ok (.istore 4, 2) := dt_Ref_choose 53
theorem d_Ref_choose_101 : decode (jm_cod M_Ref_choose) 101 = .ok (.iinc 5 1, 3) := dt_Ref_choose 54
theorem d_Ref_choose_104 : decode (jm_cod M_Ref_choose) 104 = .ok (.goto (-78), 3) := dt_Ref_choose 55
theorem d_Ref_choose_107 : decode (jm_cod M_Ref_choose) 107 = .ok (.iload 4, 2) := dt_Ref_choose 56
theorem d_Ref_choose_109 : decode (jm_cod M_Ref_choose) 109 = .ok (.ireturn, 1) := dt_Ref_choose 57
def tab_Ref_mayWrite : List (Nat × Instr × Nat) := [(0, .aload_n 0, 1), (1, .iconst 0, 1), (2, .iload_n 1, 1), (3, .iconst 0, 1), (4, .invokevirtual 388, 3), (7, .istore_n 3, 1), (8, .aload_n 0, 1), (9, .getfield 115, 3), (12, .iload_n 3, 1), (13, .iaload, 1), (14, .ifCond .eq 36, 3), (17, .aload_n 0, 1), (18, .aload_n 0, 1), (19, .getfield 106, 3), (22, .iconst 4, 1), (23, .iload_n 3, 1), (24, .imul, 1), (25, .laload, 1), (26, .invokestatic 314, 3), (29, .invokevirtual 523, 3), (32, .iload_n 2, 1), (33, .if_icmp .ne 17, 3), (36, .aload_n 0, 1), (37, .aload_n 0, 1), (38, .iconst 1, 1), (39, .iload_n 2, 1), (40, .iconst 0, 1), (41, .invokevirtual 388, 3), (44, .invokevirtual 392, 3), (47, .ifCond .ne 5, 3), (50, .iconst 0, 1), (51, .ireturn, 1), (52, .aload_n 0, 1), (53, .getfield 106, 3), (56, .iconst 4, 1), (57, .iload_n 3, 1), (58, .imul, 1), (59, .laload, 1), (60, .invokestatic 396, 3), (63, .istore 4, 2), (65, .iconst 0, 1), (66, .istore 5, 2), (68, .iconst 1, 1), (69, .istore 6, 2), (71, .iconst 0, 1), (72, .istore 7, 2), (74, .iload 7, 2), (76, .aload_n 0, 1), (77, .getfield 526, 3), (80, .if_icmp .ge 68, 3), (83, .aload_n 0, 1), (84, .getfield 118, 3), (87, .iload 7, 2), (89, .iaload, 1), (90, .iload_n 1, 1), (91, .if_icmp .ne 51, 3), (94, .iinc 5 1, 3), (97, .iload 6, 2), (99, .ifCond .eq 40, 3), (102, .aload_n 0, 1), (103, .getfield 124, 3), (106, .iload 7, 2), (108, .iaload, 1), (109, .iload_n 2, 1), (110, .if_icmp .eq 25, 3), (113, .aload_n 0, 1), (114, .getfield 121, 3), (117, .iload 7, 2), (119, .iaload, 1), (120, .iload 4, 2), (122, .if_icmp .eq 17, 3), (125, .aload_n 0, 1), (126, .getfield 127, 3), (129, .iload 7, 2), (131, .iaload, 1), (132, .ifCond .ne 7, 3), (135, .iconst 1, 1), (136, .goto 4, 3), (139, .iconst 0, 1), (140, .istore 6, 2), (142, .iinc 7 1, 3), (145, .goto (-71), 3), (148, .iload 6, 2), (150, .ifCond .eq 16, 3), (153, .iload 5, 2), (155, .aload_n 0, 1), (156, .getfield 297, 3), (159, .if_icmp .ge 7, 3), (162, .iconst 1, 1), (163, .goto 4, 3), (166, .iconst 0, 1), (167, .ireturn, 1)]
theorem dt_Ref_mayWrite (i : Nat) : decode (jm_cod M_Ref_mayWrite) (tab_Ref_mayWrite.getD i (0, .aload_n 0, 1)).1 = .ok ((tab_Ref_mayWrite.getD i (0, .aload_n 0, 1)).2.1, (tab_Ref_mayWrite.getD i (0, .aload_n 0, 1)).2.2) := j_tab (by decide +kernel) i
theorem d_Ref_mayWrite_0 : decode (jm_cod M_Ref_mayWrite) 0 = .ok (.aload_n 0, 1) := dt_Ref_mayWrite 0
theorem d_Ref_mayWrite_1 : decode (jm_cod M_Ref_mayWrite) 1 = .ok (.iconst 0, 1) := dt_Ref_mayWrite 1
theorem d_Ref_mayWrite_2 : decode (jm_cod M_Ref_mayWrite) 2 = .ok (.iload_n 1, 1) := dt_Ref_mayWrite 2
theorem d_Ref_mayWrite_3 : decode (jm_cod M_Ref_mayWrite) 3 = .ok (.iconst 0, 1) := dt_Ref_mayWrite 3
theorem d_Ref_mayWrite_4 : decode (jm_cod M_Ref_mayWrite) 4 = .ok (.invokevirtual 388, 3) := dt_Ref_mayWrite 4
theorem d_Ref_mayWrite_7 : decode (jm_cod M_Ref_mayWrite) 7 = .ok (.istore_n 3, 1) := dt_Ref_mayWrite 5
theorem d_Ref_mayWrite_8 : decode (jm_cod M_Ref_mayWrite) 8 = .ok (.aload_n 0, 1) := dt_Ref_mayWrite 6
theorem d_Ref_mayWrite_9 : decode (jm_cod M_Ref_mayWrite) 9 = .ok (.getfield 115, 3) := dt_Ref_mayWrite 7
theorem d_Ref_mayWrite_12 : decode (jm_cod M_Ref_mayWrite) 12 = .ok (.iload_n 3, 1) := dt_Ref_mayWrite 8
theorem d_Ref_mayWrite_13 : decode (jm_cod M_Ref_mayWrite) 13 = .ok (.iaload, 1) := dt_Ref_mayWrite 9
theorem d_Ref_mayWrite_14 : decode (jm_cod M_Ref_mayWrite) 14 = .ok (.ifCond .eq 36, 3) := dt_Ref_mayWrite 10
theorem d_Ref_mayWrite_17 : decode (jm_cod M_Ref_mayWrite) 17 = .ok (.aload_n 0, 1) := dt_Ref_mayWrite 11
theorem d_Ref_mayWrite_18 : decode (jm_cod M_Ref_mayWrite) 18 = .ok (.aload_n 0, 1) := dt_Ref_mayWrite 12
theorem d_Ref_mayWrite_19 : decode (jm_cod M_Ref_mayWrite) 19 = .ok (.getfield 106, 3) := dt_Ref_mayWrite 13
theorem d_Ref_mayWrite_22 : decode (jm_cod M_Ref_mayWrite) 22 = .ok (.iconst 4, 1) := dt_Ref_mayWrite 14
theorem d_Ref_mayWrite_23 : decode (jm_cod M_Ref_mayWrite) 23 = .ok (.iload_n 3, 1) := dt_Ref_mayWrite 15
theorem d_Ref_mayWrite_24 : decode (jm_cod M_Ref_mayWrite) 24 = .ok (.imul, 1) := dt_Ref_mayWrite 16
theorem d_Ref_mayWrite_25 : decode (jm_cod M_Ref_mayWrite) 25 = .ok (.laload, 1) := dt_Ref_mayWrite 17
theorem d_Ref_mayWrite_26 : decode (jm_cod M_Ref_mayWrite) 26 = .ok (.invokestatic 314, 3) := dt_Ref_mayWrite 18
theorem d_Ref_mayWrite_29 : decode (jm_cod M_Ref_mayWrite) 29 = .ok (.invokevirtual 523, 3) := dt_Ref_mayWrite 19
theorem d_Ref_mayWrite_32 : decode (jm_cod M_Ref_mayWrite) 32 = .ok (.iload_n 2, 1) := dt_Ref_mayWrite 20
theorem d_Ref_mayWrite_33 : decode (jm_cod M_Ref_mayWrite) 33 = .ok (.if_icmp .ne 17, 3) := dt_Ref_mayWrite 21
theorem d_Ref_mayWrite_36 : decode (jm_cod M_Ref_mayWrite) 36 = .ok (.aload_n 0, 1) := dt_Ref_mayWrite 22
theorem d_Ref_mayWrite_37 : decode (jm_cod M_Ref_mayWrite) 37 = .ok (.aload_n 0, 1) := dt_Ref_mayWrite 23
theorem d_Ref_mayWrite_38 : decode (jm_cod M_Ref_mayWrite) 38 = .ok (.iconst 1, 1) := dt_Ref_mayWrite 24
theorem d_Ref_mayWrite_39 : decode (jm_cod M_Ref_mayWrite) 39 = .ok (.iload_n 2, 1) := dt_Ref_mayWrite 25
theorem d_Ref_mayWrite_40 : decode (jm_cod M_Ref_mayWrite) 40 = .ok (.iconst 0, 1) := dt_Ref_mayWrite 26
theorem d_Ref_mayWrite_41 : decode (jm_cod M_Ref_mayWrite) 41 = .ok (.invokevirtual 388, 3) := dt_Ref_mayWrite 27
theorem d_Ref_mayWrite_44 : decode (jm_cod M_Ref_mayWrite) 44 = .ok (.invokevirtual 392, 3) := dt_Ref_mayWrite 28
theorem d_Ref_mayWrite_47 : decode (jm_cod M_Ref_mayWrite) 47 = .ok (.ifCond .ne 5, 3) := dt_Ref_mayWrite 29
theorem d_Ref_mayWrite_50 : decode (jm_cod M_Ref_mayWrite) 50 = .ok (.iconst 0, 1) := dt_Ref_mayWrite 30
theorem d_Ref_mayWrite_51 : decode (jm_cod M_Ref_mayWrite) 51 = .ok (.ireturn, 1) := dt_Ref_mayWrite 31
theorem d_Ref_mayWrite_52 : decode (jm_cod M_Ref_mayWrite) 52 = .ok (.aload_n 0, 1) := dt_Ref_mayWrite 32
theorem d_Ref_mayWrite_53 : decode (jm_cod M_Ref_mayWrite) 53 = .ok (.getfield 106, 3) := dt_Ref_mayWrite 33
theorem d_Ref_mayWrite_56 : decode (jm_cod M_Ref_mayWrite) 56 = .ok (.iconst 4, 1) := dt_Ref_mayWrite 34
theorem d_Ref_mayWrite_57 : decode (jm_cod M_Ref_mayWrite) 57 = .ok (.iload_n 3, 1) := dt_Ref_mayWrite 35
theorem d_Ref_mayWrite_58 : decode (jm_cod M_Ref_mayWrite) 58 = .ok (.imul, 1) := dt_Ref_mayWrite 36
theorem d_Ref_mayWrite_59 : decode (jm_cod M_Ref_mayWrite) 59 = .ok (.laload, 1) := dt_Ref_mayWrite 37
theorem d_Ref_mayWrite_60 : decode (jm_cod M_Ref_mayWrite) 60 = .ok (.invokestatic 396, 3) := dt_Ref_mayWrite 38
theorem d_Ref_mayWrite_63 : decode (jm_cod M_Ref_mayWrite) 63 = .ok (.istore 4, 2) := dt_Ref_mayWrite 39
theorem d_Ref_mayWrite_65 : decode (jm_cod M_Ref_mayWrite) 65 = .ok (.iconst 0, 1) := dt_Ref_mayWrite 40
theorem d_Ref_mayWrite_66 : decode (jm_cod M_Ref_mayWrite) 66 = .ok (.istore 5, 2) := dt_Ref_mayWrite 41
theorem d_Ref_mayWrite_68 : decode (jm_cod M_Ref_mayWrite) 68 = .ok (.iconst 1, 1) := dt_Ref_mayWrite 42
theorem d_Ref_mayWrite_69 : decode (jm_cod M_Ref_mayWrite) 69 = .ok (.istore 6, 2) := dt_Ref_mayWrite 43
theorem d_Ref_mayWrite_71 : decode (jm_cod M_Ref_mayWrite) 71 = .ok (.iconst 0, 1) := dt_Ref_mayWrite 44
theorem d_Ref_mayWrite_72 : decode (jm_cod M_Ref_mayWrite) 72 = .ok (.istore 7, 2) := dt_Ref_mayWrite 45
theorem d_Ref_mayWrite_74 : decode (jm_cod M_Ref_mayWrite) 74 = .ok (.iload 7, 2) := dt_Ref_mayWrite 46
theorem d_Ref_mayWrite_76 : decode (jm_cod M_Ref_mayWrite) 76 = .ok (.aload_n 0, 1) := dt_Ref_mayWrite 47
theorem d_Ref_mayWrite_77 : decode (jm_cod M_Ref_mayWrite) 77 = .ok (.getfield 526, 3) := dt_Ref_mayWrite 48
theorem d_Ref_mayWrite_80 : decode (jm_cod M_Ref_mayWrite) 80 = .ok (.if_icmp .ge 68, 3) := dt_Ref_mayWrite 49
theorem d_Ref_mayWrite_83 : decode (jm_cod M_Ref_mayWrite) 83 = .ok (.aload_n 0, 1) := dt_Ref_mayWrite 50
theorem d_Ref_mayWrite_84 : decode (jm_cod M_Ref_mayWrite) 84 = .ok (.getfield 118, 3) := dt_Ref_mayWrite 51
theorem d_Ref_mayWrite_87 : decode (jm_cod M_Ref_mayWrite) 87 = .ok (.iload 7, 2) := dt_Ref_mayWrite 52
theorem d_Ref_mayWrite_89 : decode (jm_cod M_Ref_mayWrite) 89 = .ok (.iaload, 1) := dt_Ref_mayWrite 53
theorem d_Ref_mayWrite_90 : decode (jm_cod M_Ref_mayWrite) 90 = .ok (.iload_n 1, 1) := dt_Ref_mayWrite 54
theorem d_Ref_mayWrite_91 : decode (jm_cod M_Ref_mayWrite) 91 = .ok (.if_icmp .ne 51, 3) := dt_Ref_mayWrite 55
theorem d_Ref_mayWrite_94 : decode (jm_cod M_Ref_mayWrite) 94 = .ok (.iinc 5 1, 3) := dt_Ref_mayWrite 56
theorem d_Ref_mayWrite_97 : decode (jm_cod M_Ref_mayWrite) 97 = .ok (.iload 6, 2) := dt_Ref_mayWrite 57
theorem d_Ref_mayWrite_99 : decode (jm_cod M_Ref_mayWrite) 99 = .ok (.ifCond .eq 40, 3) := dt_Ref_mayWrite 58
theorem d_Ref_mayWrite_102 : decode (jm_cod M_Ref_mayWrite) 102 = .ok (.aload_n 0, 1) := dt_Ref_mayWrite 59
theorem d_Ref_mayWrite_103 : decode (jm_cod M_Ref_mayWrite) 103 = .ok (.getfield 124, 3) := dt_Ref_mayWrite 60
theorem d_Ref_mayWrite_106 : decode (jm_cod M_Ref_mayWrite) 106 = .ok (.iload 7, 2) := dt_Ref_mayWrite 61
theorem d_Ref_mayWrite_108 : decode (jm_cod M_Ref_mayWrite) 108 = .ok (.iaload, 1) := dt_Ref_mayWrite 62
theorem d_Ref_mayWrite_109 : decode (jm_cod M_Ref_mayWrite) 109 = .ok (.iload_n 2, 1) := dt_Ref_mayWrite 63
theorem d_Ref_mayWrite_110 : decode (jm_cod M_Ref_mayWrite) 110 = .ok (.if_icmp .eq 25, 3) := dt_Ref_mayWrite 64
theorem d_Ref_mayWrite_113 : decode (jm_cod M_Ref_mayWrite) 113 = .ok (.aload_n 0, 1) := dt_Ref_mayWrite 65
theorem d_Ref_mayWrite_114 : decode (jm_cod M_Ref_mayWrite) 114 = .ok (.getfield 121, 3) := dt_Ref_mayWrite 66
theorem d_Ref_mayWrite_117 : decode (jm_cod M_Ref_mayWrite) 117 = .ok (.iload 7, 2) := dt_Ref_mayWrite 67
theorem d_Ref_mayWrite_119 : decode (jm_cod M_Ref_mayWrite) 119 = .ok (.iaload, 1) := dt_Ref_mayWrite 68
theorem d_Ref_mayWrite_120 : decode (jm_cod M_Ref_mayWrite) 120 = .ok (.iload 4, 2) := dt_Ref_mayWrite 69
theorem d_Ref_mayWrite_122 : decode (jm_cod M_Ref_mayWrite) 122 = .ok (.if_icmp .eq 17, 3) := dt_Ref_mayWrite 70
theorem d_Ref_mayWrite_125 : decode (jm_cod M_Ref_mayWrite) 125 = .ok (.aload_n 0, 1) := dt_Ref_mayWrite 71
theorem d_Ref_mayWrite_126 : decode (jm_cod M_Ref_mayWrite) 126 = .ok (.getfield 127, 3) := dt_Ref_mayWrite 72
theorem d_Ref_mayWrite_129 : decode (jm_cod M_Ref_mayWrite) 129 = .ok (.iload 7, 2) := dt_Ref_mayWrite 73
theorem d_Ref_mayWrite_131 : decode (jm_cod M_Ref_mayWrite) 131 = .ok (.iaload, 1) := dt_Ref_mayWrite 74
theorem d_Ref_mayWrite_132 : decode (jm_cod M_Ref_mayWrite) 132 = .ok (.ifCond .ne 7, 3) := dt_Ref_mayWrite 75
theorem d_Ref_mayWrite_135 : decode (jm_cod M_Ref_mayWrite) 135 = .ok (.iconst 1, 1) := dt_Ref_mayWrite 76
theorem d_Ref_mayWrite_136 : decode (jm_cod M_Ref_mayWrite) 136 = .ok (.goto 4, 3) := dt_Ref_mayWrite 77
theorem d_Ref_mayWrite_139 : decode (jm_cod M_Ref_mayWrite) 139 = .ok (.iconst 0, 1) := dt_Ref_mayWrite 78
theorem d_Ref_mayWrite_140 : decode (jm_cod M_Ref_mayWrite) 140 = .ok (.istore 6, 2) := dt_Ref_mayWrite 79
theorem d_Ref_mayWrite_142 : decode (jm_cod M_Ref_mayWrite) 142 = .ok (.iinc 7 1, 3) := dt_Ref_mayWrite 80
theorem d_Ref_mayWrite_145 : decode (jm_cod M_Ref_mayWrite) 145 = .ok (.goto (-71), 3) := dt_Ref_mayWrite 81
theorem d_Ref_mayWrite_148 : decode (jm_cod M_Ref_mayWrite) 148 = .ok (.iload 6, 2) := dt_Ref_mayWrite 82
theorem d_Ref_mayWrite_150 : decode (jm_cod M_Ref_mayWrite) 150 = .ok (.ifCond .eq 16, 3) := dt_Ref_mayWrite 83
theorem d_Ref_mayWrite_153 : decode (jm_cod M_Ref_mayWrite) 153 = .ok (.iload 5, 2) := dt_Ref_mayWrite 84
theorem d_Ref_mayWrite_155 : decode (jm_cod M_Ref_mayWrite) 155 = .ok (.aload_n 0, 1) := dt_Ref_mayWrite 85
theorem d_Ref_mayWrite_156 : decode (jm_cod M_Ref_mayWrite) 156 = .ok (.getfield 297, 3) := dt_Ref_mayWrite 86
theorem d_Ref_mayWrite_159 : decode (jm_cod M_Ref_mayWrite) 159 = .ok (.if_icmp .ge 7, 3) := dt_Ref_mayWrite 87
theorem d_Ref_mayWrite_162 : decode (jm_cod M_Ref_mayWrite) 162 = .ok (.iconst 1, 1) := dt_Ref_mayWrite 88
theorem d_Ref_mayWrite_163 : decode (jm_cod M_Ref_mayWrite) 163 = .ok (.goto 4, 3) := dt_Ref_mayWrite 89
theorem d_Ref_mayWrite_166 : decode (jm_cod M_Ref_mayWrite) 166 = .ok (.iconst 0, 1) := dt_Ref_mayWrite 90
theorem d_Ref_mayWrite_167 : decode (jm_cod M_Ref_mayWrite) 167 = .ok (.ireturn, 1) := dt_Ref_mayWrite 91
def tab_Ref_targetOf : List (Nat × Instr × Nat) := [(0, .aload_n 0, 1), (1, .getfield 7, 3), (4, .iload_n 1, 1), (5, .sipush 4096, 3), (8, .idiv, 1), (9, .iaload, 1), (10, .istore_n 2, 1), (11, .iload_n 2, 1), (12, .iconst (-1), 1), (13, .if_icmp .ne 10, 3), (16, .aload_n 0, 1), (17, .getfield 294, 3), (20, .goto 4, 3), (23, .iload_n 2, 1), (24, .ireturn, 1)]
theorem dt_Ref_targetOf (i : Nat) : decode (jm_cod M_Ref_targetOf) (tab_Ref_targetOf.getD i (0, .aload_n 0, 1)).1 = .ok ((tab_Ref_targetOf.getD i (0, .aload_n 0, 1)).2.1, (tab_Ref_targetOf.getD i (0, .aload_n 0, 1)).2.2) := j_tab (by decide +kernel) i
theorem d_Ref_targetOf_0 : decode (jm_cod M_Ref_targetOf) 0 = .ok (.aload_n 0, 1) := dt_Ref_targetOf 0
theorem d_Ref_targetOf_1 : decode (jm_cod M_Ref_targetOf) 1 = .ok (.getfield 7, 3) := dt_Ref_targetOf 1
theorem d_Ref_targetOf_4 : decode (jm_cod M_Ref_targetOf) 4 = .ok (.iload_n 1, 1) := dt_Ref_targetOf 2
theorem d_Ref_targetOf_5 : decode (jm_cod M_Ref_targetOf) 5 = .ok (.sipush 4096, 3) := dt_Ref_targetOf 3
theorem d_Ref_targetOf_8 : decode (jm_cod M_Ref_targetOf) 8 = .ok (.idiv, 1) := dt_Ref_targetOf 4
theorem d_Ref_targetOf_9 : decode (jm_cod M_Ref_targetOf) 9 = .ok (.iaload, 1) := dt_Ref_targetOf 5
theorem d_Ref_targetOf_10 : decode (jm_cod M_Ref_targetOf) 10 = .ok (.istore_n 2, 1) := dt_Ref_targetOf 6
theorem d_Ref_targetOf_11 : decode (jm_cod M_Ref_targetOf) 11 = .ok (.iload_n 2, 1) := dt_Ref_targetOf 7
theorem d_Ref_targetOf_12 : decode (jm_cod M_Ref_targetOf) 12 = .ok (.iconst (-1), 1) := dt_Ref_targetOf 8
theorem d_Ref_targetOf_13 : decode (jm_cod M_Ref_targetOf) 13 = .ok (.if_icmp .ne 10, 3) := dt_Ref_targetOf 9
theorem d_Ref_targetOf_16 : decode (jm_cod M_Ref_targetOf) 16 = .ok (.aload_n 0, 1) := dt_Ref_targetOf 10
theorem d_Ref_targetOf_17 : decode (jm_cod M_Ref_targetOf) 17 = .ok (.getfield 294, 3) := dt_Ref_targetOf 11
theorem d_Ref_targetOf_20 : decode (jm_cod M_Ref_targetOf) 20 = .ok (.goto 4, 3) := dt_Ref_targetOf 12
theorem d_Ref_targetOf_23 : decode (jm_cod M_Ref_targetOf) 23 = .ok (.iload_n 2, 1) := dt_Ref_targetOf 13
theorem d_Ref_targetOf_24 : decode (jm_cod M_Ref_targetOf) 24 = .ok (.ireturn, 1) := dt_Ref_targetOf 14
def tab_Ref_mayRead : List (Nat × Instr × Nat) := [(0, .aload_n 0, 1), (1, .iconst 0, 1), (2, .iload_n 1, 1), (3, .iconst 3, 1), (4, .invokevirtual 388, 3), (7, .istore_n 3, 1), (8, .aload_n 0, 1), (9, .getfield 115, 3), (12, .iload_n 3, 1), (13, .iaload, 1), (14, .ifCond .eq 36, 3), (17, .aload_n 0, 1), (18, .aload_n 0, 1), (19, .getfield 106, 3), (22, .iconst 4, 1), (23, .iload_n 3, 1), (24, .imul, 1), (25, .laload, 1), (26, .invokestatic 314, 3), (29, .invokevirtual 523, 3), (32, .iload_n 2, 1), (33, .if_icmp .ne 17, 3), (36, .aload_n 0, 1), (37, .aload_n 0, 1), (38, .iconst 1, 1), (39, .iload_n 2, 1), (40, .iconst 3, 1), (41, .invokevirtual 388, 3), (44, .invokevirtual 392, 3), (47, .ifCond .ne 5, 3), (50, .iconst 0, 1), (51, .ireturn, 1), (52, .aload_n 0, 1), (53, .getfield 106, 3), (56, .iconst 4, 1), (57, .iload_n 3, 1), (58, .imul, 1), (59, .laload, 1), (60, .invokestatic 396, 3), (63, .istore 4, 2), (65, .iconst 0, 1), (66, .istore 5, 2), (68, .iconst 1, 1), (69, .istore 6, 2), (71, .iconst 0, 1), (72, .istore 7, 2), (74, .iload 7, 2), (76, .aload_n 0, 1), (77, .getfield 529, 3), (80, .if_icmp .ge 58, 3), (83, .aload_n 0, 1), (84, .getfield 130, 3), (87, .iload 7, 2), (89, .iaload, 1), (90, .iload_n 1, 1), (91, .if_icmp .ne 41, 3), (94, .iinc 5 1, 3), (97, .iload 6, 2), (99, .ifCond .eq 30, 3), (102, .aload_n 0, 1), (103, .getfield 136, 3), (106, .iload 7, 2), (108, .iaload, 1), (109, .iload_n 2, 1), (110, .if_icmp .eq 15, 3), (113, .aload_n 0, 1), (114, .getfield 133, 3), (117, .iload 7, 2), (119, .iaload, 1), (120, .iload 4, 2), (122, .if_icmp .eq 7, 3), (125, .iconst 1, 1), (126, .goto 4, 3), (129, .iconst 0, 1), (130, .istore 6, 2), (132, .iinc 7 1, 3), (135, .goto (-61), 3), (138, .iload 6, 2), (140, .ifCond .eq 16, 3), (143, .iload 5, 2), (145, .aload_n 0, 1), (146, .getfield 297, 3), (149, .if_icmp .ge 7, 3), (152, .iconst 1, 1), (153, .goto 4, 3), (156, .iconst 0, 1), (157, .ireturn, 1)]
theorem dt_Ref_mayRead (i : Nat) : decode (jm_cod M_Ref_mayRead) (tab_Ref_mayRead.getD i (0, .aload_n 0, 1)).1 = .ok ((tab_Ref_mayRead.getD i (0, .aload_n 0, 1)).2.1, (tab_Ref_mayRead.getD i (0, .aload_n 0, 1)).2.2) := j_tab (by decide +kernel) i
theorem d_Ref_mayRead_0 : decode (jm_cod M_Ref_mayRead) 0 = .ok (.aload_n 0, 1) := dt_Ref_mayRead 0
theorem d_Ref_mayRead_1 : decode (jm_cod M_Ref_mayRead) 1 = .ok (.iconst 0, 1) := dt_Ref_mayRead 1
theorem d_Ref_mayRead_2 : decode (jm_cod M_Ref_mayRead) 2 = .ok (.iload_n 1, 1) := dt_Ref_mayRead 2
theorem d_Ref_mayRead_3 : decode (jm_cod M_Ref_mayRead) 3 = .ok (.iconst 3, 1) := dt_Ref_mayRead 3
theorem d_Ref_mayRead_4 : decode (jm_cod M_Ref_mayRead) 4 = .ok (.invokevirtual 388, 3) := dt_Ref_mayRead 4
theorem d_Ref_mayRead_7 : decode (jm_cod M_Ref_mayRead) 7 = .ok (.istore_n 3, 1) := dt_Ref_mayRead 5
theorem d_Ref_mayRead_8 : decode (jm_cod M_Ref_mayRead) 8 = .ok (.aload_n 0, 1) := dt_Ref_mayRead 6
theorem d_Ref_mayRead_9 : decode (jm_cod M_Ref_mayRead) 9 = .ok (.getfield 115, 3) := dt_Ref_mayRead 7
theorem d_Ref_mayRead_12 : decode (jm_cod M_Ref_mayRead) 12 = .ok (.iload_n 3, 1) := dt_Ref_mayRead 8
theorem d_Ref_mayRead_13 : decode (jm_cod M_Ref_mayRead) 13 = .ok (.iaload, 1) := dt_Ref_mayRead 9
theorem d_Ref_mayRead_14 : decode (jm_cod M_Ref_mayRead) 14 = .ok (.ifCond .eq 36, 3) := dt_Ref_mayRead 10
theorem d_Ref_mayRead_17 : decode (jm_cod M_Ref_mayRead) 17 = .ok (.aload_n 0, 1) := dt_Ref_mayRead 11
theorem d_Ref_mayRead_18 : decode (jm_cod M_Ref_mayRead) 18 = .ok (.aload_n 0, 1) := dt_Ref_mayRead 12
theorem d_Ref_mayRead_19 : decode (jm_cod M_Ref_mayRead) 19 = .ok (.getfield 106, 3) := dt_Ref_mayRead 13
theorem d_Ref_mayRead_22 : decode (jm_cod M_Ref_mayRead) 22 = .ok (.iconst 4, 1) := dt_Ref_mayRead 14
theorem d_Ref_mayRead_23 : decode (jm_cod M_Ref_mayRead) 23 = .ok (.iload_n 3, 1) := dt_Ref_mayRead 15
theorem d_Ref_mayRead_24 : decode (jm_cod M_Ref_mayRead) 24 = .ok (.imul, 1) := dt_Ref_mayRead 16
theorem d_Ref_mayRead_25 : decode (jm_cod M_Ref_mayRead) 25 = .ok (.laload, 1) := dt_Ref_mayRead 17
theorem d_Ref_mayRead_26 : decode (jm_cod M_Ref_mayRead) 26 = .ok (.invokestatic 314, 3) := dt_Ref_mayRead 18
theorem d_Ref_mayRead_29 : decode (jm_cod M_Ref_mayRead) 29 = .ok (.invokevirtual 523, 3) := dt_Ref_mayRead 19
theorem d_Ref_mayRead_32 : decode (jm_cod M_Ref_mayRead) 32 = .ok (.iload_n 2, 1) := dt_Ref_mayRead 20
theorem d_Ref_mayRead_33 : decode (jm_cod M_Ref_mayRead) 33 = .ok (.if_icmp .ne 17, 3) := dt_Ref_mayRead 21
theorem d_Ref_mayRead_36 : decode (jm_cod M_Ref_mayRead) 36 = .ok (.aload_n 0, 1) := dt_Ref_mayRead 22
theorem d_Ref_mayRead_37 : decode (jm_cod M_Ref_mayRead) 37 = .ok (.aload_n 0, 1) := dt_Ref_mayRead 23
theorem d_Ref_mayRead_38 : decode (jm_cod M_Ref_mayRead) 38 = .ok (.iconst 1, 1) := dt_Ref_mayRead 24
theorem d_Ref_mayRead_39 : decode (jm_cod M_Ref_mayRead) 39 = .ok (.iload_n 2, 1) := dt_Ref_mayRead 25
theorem d_Ref_mayRead_40 : decode (jm_cod M_Ref_mayRead) 40 = .ok (.iconst 3, 1) := dt_Ref_mayRead 26
theorem d_Ref_mayRead_41 : decode (jm_cod M_Ref_mayRead) 41 = .ok (.invokevirtual 388, 3) := dt_Ref_mayRead 27
theorem d_Ref_mayRead_44 : decode (jm_cod M_Ref_mayRead) 44 = .ok (.invokevirtual 392, 3) := dt_Ref_mayRead 28
theorem d_Ref_mayRead_47 : decode (jm_cod M_Ref_mayRead) 47 = .ok (.ifCond .ne 5, 3) := dt_Ref_mayRead 29
theorem d_Ref_mayRead_50 : decode (jm_cod M_Ref_mayRead) 50 = .ok (.iconst 0, 1) := dt_Ref_mayRead 30
theorem d_Ref_mayRead_51 : decode (jm_cod M_Ref_mayRead) 51 = .ok (.ireturn, 1) := dt_Ref_mayRead 31
theorem d_Ref_mayRead_52 : decode (jm_cod M_Ref_mayRead) 52 = .ok (.aload_n 0, 1) := dt_Ref_mayRead 32
theorem d_Ref_mayRead_53 : decode (jm_cod M_Ref_mayRead) 53 = .ok (.getfield 106, 3) := dt_Ref_mayRead 33
theorem d_Ref_mayRead_56 : decode (jm_cod M_Ref_mayRead) 56 = .ok (.iconst 4, 1) := dt_Ref_mayRead 34
theorem d_Ref_mayRead_57 : decode (jm_cod M_Ref_mayRead) 57 = .ok (.iload_n 3, 1) := dt_Ref_mayRead 35
theorem d_Ref_mayRead_58 : decode (jm_cod M_Ref_mayRead) 58 = .ok (.imul, 1) := dt_Ref_mayRead 36
theorem d_Ref_mayRead_59 : decode (jm_cod M_Ref_mayRead) 59 = .ok (.laload, 1) := dt_Ref_mayRead 37
theorem d_Ref_mayRead_60 : decode (jm_cod M_Ref_mayRead) 60 = .ok (.invokestatic 396, 3) := dt_Ref_mayRead 38
theorem d_Ref_mayRead_63 : decode (jm_cod M_Ref_mayRead) 63 = .ok (.istore 4, 2) := dt_Ref_mayRead 39
theorem d_Ref_mayRead_65 : decode (jm_cod M_Ref_mayRead) 65 = .ok (.iconst 0, 1) := dt_Ref_mayRead 40
theorem d_Ref_mayRead_66 : decode (jm_cod M_Ref_mayRead) 66 = .ok (.istore 5, 2) := dt_Ref_mayRead 41
theorem d_Ref_mayRead_68 : decode (jm_cod M_Ref_mayRead) 68 = .ok (.iconst 1, 1) := dt_Ref_mayRead 42
theorem d_Ref_mayRead_69 : decode (jm_cod M_Ref_mayRead) 69 = .ok (.istore 6, 2) := dt_Ref_mayRead 43
theorem d_Ref_mayRead_71 : decode (jm_cod M_Ref_mayRead) 71 = .ok (.iconst 0, 1) := dt_Ref_mayRead 44
theorem d_Ref_mayRead_72 : decode (jm_cod M_Ref_mayRead) 72 = .ok (.istore 7, 2) := dt_Ref_mayRead 45
theorem d_Ref_mayRead_74 : decode (jm_cod M_Ref_mayRead) 74 = .ok (.iload 7, 2) := dt_Ref_mayRead 46
theorem d_Ref_mayRead_76 : decode (jm_cod M_Ref_mayRead) 76 = .ok (.aload_n 0, 1) := dt_Ref_mayRead 47
theorem d_Ref_mayRead_77 : decode (jm_cod M_Ref_mayRead) 77 = .ok (.getfield 529, 3) := dt_Ref_mayRead 48
theorem d_Ref_mayRead_80 : decode (jm_cod M_Ref_mayRead) 80 = .ok (.if_icmp .ge 58, 3) := dt_Ref_mayRead 49
theorem d_Ref_mayRead_83 : decode (jm_cod M_Ref_mayRead) 83 = .ok (.aload_n 0, 1) := dt_Ref_mayRead 50
theorem d_Ref_mayRead_84 : decode (jm_cod M_Ref_mayRead) 84 = .ok (.getfield 130, 3) := dt_Ref_mayRead 51
theorem d_Ref_mayRead_87 : decode (jm_cod M_Ref_mayRead) 87 = .ok (.iload 7, 2) := dt_Ref_mayRead 52
theorem d_Ref_mayRead_89 : decode (jm_cod M_Ref_mayRead) 89 = .ok (.iaload, 1) := dt_Ref_mayRead 53
theorem d_Ref_mayRead_90 : decode (jm_cod M_Ref_mayRead) 90 = .ok (.iload_n 1, 1) := dt_Ref_mayRead 54
theorem d_Ref_mayRead_91 : decode (jm_cod M_Ref_mayRead) 91 = .ok (.if_icmp .ne 41, 3) := dt_Ref_mayRead 55
theorem d_Ref_mayRead_94 : decode (jm_cod M_Ref_mayRead) 94 = .ok (.iinc 5 1, 3) := dt_Ref_mayRead 56
theorem d_Ref_mayRead_97 : decode (jm_cod M_Ref_mayRead) 97 = .ok (.iload 6, 2) := dt_Ref_mayRead 57
theorem d_Ref_mayRead_99 : decode (jm_cod M_Ref_mayRead) 99 = .ok (.ifCond .eq 30, 3) := dt_Ref_mayRead 58
theorem d_Ref_mayRead_102 : decode (jm_cod M_Ref_mayRead) 102 = .ok (.aload_n 0, 1) := dt_Ref_mayRead 59
theorem d_Ref_mayRead_103 : decode (jm_cod M_Ref_mayRead) 103 = .ok (.getfield 136, 3) := dt_Ref_mayRead 60
theorem d_Ref_mayRead_106 : decode (jm_cod M_Ref_mayRead) 106 = .ok (.iload 7, 2) := dt_Ref_mayRead 61
theorem d_Ref_mayRead_108 : decode (jm_cod M_Ref_mayRead) 108 = .ok (.iaload, 1) := dt_Ref_mayRead 62
theorem d_Ref_mayRead_109 : decode (jm_cod M_Ref_mayRead) 109 = .ok (.iload_n 2, 1) := dt_Ref_mayRead 63
theorem d_Ref_mayRead_110 : decode (jm_cod M_Ref_mayRead) 110 = .ok (.if_icmp .eq 15, 3) := dt_Ref_mayRead 64
theorem d_Ref_mayRead_113 : decode (jm_cod M_Ref_mayRead) 113 = .ok (.aload_n 0, 1) := dt_Ref_mayRead 65
theorem d_Ref_mayRead_114 : decode (jm_cod M_Ref_mayRead) 114 = .ok (.getfield 133, 3) := dt_Ref_mayRead 66
theorem d_Ref_mayRead_117 : decode (jm_cod M_Ref_mayRead) 117 = .ok (.iload 7, 2) := dt_Ref_mayRead 67
theorem d_Ref_mayRead_119 : decode (jm_cod M_Ref_mayRead) 119 = .ok (.iaload, 1) := dt_Ref_mayRead 68
theorem d_Ref_mayRead_120 : decode (jm_cod M_Ref_mayRead) 120 = .ok (.iload 4, 2) := dt_Ref_mayRead 69
theorem d_Ref_mayRead_122 : decode (jm_cod M_Ref_mayRead) 122 = .ok (.if_icmp .eq 7, 3) := dt_Ref_mayRead 70
theorem d_Ref_mayRead_125 : decode (jm_cod M_Ref_mayRead) 125 = .ok (.iconst 1, 1) := dt_Ref_mayRead 71
theorem d_Ref_mayRead_126 : decode (jm_cod M_Ref_mayRead) 126 = .ok (.goto 4, 3) := dt_Ref_mayRead 72
theorem d_Ref_mayRead_129 : decode (jm_cod M_Ref_mayRead) 129 = .ok (.iconst 0, 1) := dt_Ref_mayRead 73
theorem d_Ref_mayRead_130 : decode (jm_cod M_Ref_mayRead) 130 = .ok (.istore 6, 2) := dt_Ref_mayRead 74
theorem d_Ref_mayRead_132 : decode (jm_cod M_Ref_mayRead) 132 = .ok (.iinc 7 1, 3) := dt_Ref_mayRead 75
theorem d_Ref_mayRead_135 : decode (jm_cod M_Ref_mayRead) 135 = .ok (.goto (-61), 3) := dt_Ref_mayRead 76
theorem d_Ref_mayRead_138 : decode (jm_cod M_Ref_mayRead) 138 = .ok (.iload 6, 2) := dt_Ref_mayRead 77
theorem d_Ref_mayRead_140 : decode (jm_cod M_Ref_mayRead) 140 = .ok (.ifCond .eq 16, 3) := dt_Ref_mayRead 78
theorem d_Ref_mayRead_143 : decode (jm_cod M_Ref_mayRead) 143 = .ok (.iload 5, 2) := dt_Ref_mayRead 79
theorem d_Ref_mayRead_145 : decode (jm_cod M_Ref_mayRead) 145 = .ok (.aload_n 0, 1) := dt_Ref_mayRead 80
theorem d_Ref_mayRead_146 : decode (jm_cod M_Ref_mayRead) 146 = .ok (.getfield 297, 3) := dt_Ref_mayRead 81
theorem d_Ref_mayRead_149 : decode (jm_cod M_Ref_mayRead) 149 = .ok (.if_icmp .ge 7, 3) := dt_Ref_mayRead 82
theorem d_Ref_mayRead_152 : decode (jm_cod M_Ref_mayRead) 152 = .ok (.iconst 1, 1) := dt_Ref_mayRead 83
theorem d_Ref_mayRead_153 : decode (jm_cod M_Ref_mayRead) 153 = .ok (.goto 4, 3) := dt_Ref_mayRead 84
theorem d_Ref_mayRead_156 : decode (jm_cod M_Ref_mayRead) 156 = .ok (.iconst 0, 1) := dt_Ref_mayRead 85
theorem d_Ref_mayRead_157 : decode (jm_cod M_Ref_mayRead) 157 = .ok (.ireturn, 1) := dt_Ref_mayRead 86
def tab_Ref_isBetter : List (Nat × Instr × Nat) := [(0, .iconst 4, 1), (1, .aload_n 0, 1), (2, .iconst 0, 1), (3, .iload_n 1, 1), (4, .iload_n 3, 1), (5, .invokevirtual 388, 3), (8, .imul, 1), (9, .istore 4, 2), (11, .iconst 4, 1), (12, .aload_n 0, 1), (13, .iconst 0, 1), (14, .iload_n 2, 1), (15, .iload_n 3, 1), (16, .invokevirtual 388, 3), (19, .imul, 1), (20, .istore 5, 2), (22, .aload_n 0, 1), (23, .getfield 532, 3), (26, .ifCond .ne 14, 3), (29, .iload_n 1, 1), (30, .iload_n 2, 1), (31, .if_icmp .ge 7, 3), (34, .iconst 1, 1), (35, .goto 4, 3), (38, .iconst 0, 1), (39, .ireturn, 1), (40, .aload_n 0, 1), (41, .getfield 532, 3), (44, .iconst 2, 1), (45, .if_icmp .ne 48, 3), (48, .aload_n 0, 1), (49, .getfield 112, 3), (52, .iload 4, 2), (54, .iaload, 1), (55, .aload_n 0, 1), (56, .getfield 112, 3), (59, .iload 5, 2), (61, .iaload, 1), (62, .if_icmp .lt 25, 3), (65, .aload_n 0, 1), (66, .getfield 112, 3), (69, .iload 4, 2), (71, .iaload, 1), (72, .aload_n 0, 1), (73, .getfield 112, 3), (76, .iload 5, 2), (78, .iaload, 1), (79, .if_icmp .ne 12, 3), (82, .iload_n 1, 1), (83, .iload_n 2, 1), (84, .if_icmp .ge 7, 3), (87, .iconst 1, 1), (88, .goto 4, 3), (91, .iconst 0, 1), (92, .ireturn, 1), (93, .aload_n 0, 1), (94, .getfield 532, 3), (97, .iconst 3, 1), (98, .if_icmp .ne 30, 3), (101, .aload_n 0, 1), (102, .getfield 106, 3), (105, .iload 4, 2), (107, .laload, 1), (108, .invokestatic 535, 3), (111, .aload_n 0, 1), (112, .getfield 106, 3), (115, .iload 5, 2), (117, .laload, 1), (118, .invokestatic 535, 3), (121, .if_icmp .le 7, 3), (124, .iconst 1, 1), (125, .goto 4, 3), (128, .iconst 0, 1), (129, .ireturn, 1)]
theorem dt_Ref_isBetter (i : Nat) : decode (jm_cod M_Ref_isBetter) (tab_Ref_isBetter.getD i (0, .iconst 4, 1)).1 = .ok ((tab_Ref_isBetter.getD i (0, .iconst 4, 1)).2.1, (tab_Ref_isBetter.getD i (0, .iconst 4, 1)).2.2) := j_tab (by decide +kernel) i
theorem d_Ref_isBetter_0 : decode (jm_cod M_Ref_isBetter) 0 = .ok (.iconst 4, 1) := dt_Ref_isBetter 0
theorem d_Ref_isBetter_1 : decode (jm_cod M_Ref_isBetter) 1 = .ok (.aload_n 0, 1) := dt_Ref_isBetter 1
theorem d_Ref_isBetter_2 : decode (jm_cod M_Ref_isBetter) 2 = .ok (.iconst 0, 1) := dt_Ref_isBetter 2
theorem d_Ref_isBetter_3 : decode (jm_cod M_Ref_isBetter) 3 = .ok (.iload_n 1, 1) := dt_Ref_isBetter 3
theorem d_Ref_isBetter_4 : decode (jm_cod M_Ref_isBetter) 4 = .ok (.iload_n 3, 1) := dt_Ref_isBetter 4
theorem d_Ref_isBetter_5 : decode (jm_cod M_Ref_isBetter) 5 = .ok (.invokevirtual 388, 3) := dt_Ref_isBetter 5
theorem d_Ref_isBetter_8 : decode (jm_cod M_Ref_isBetter) 8 = .ok (.imul, 1) := dt_Ref_isBetter 6
theorem d_Ref_isBetter_9 : decode (jm_cod M_Ref_isBetter) 9 = .ok (.istore 4, 2) := dt_Ref_isBetter 7
theorem d_Ref_isBetter_11 : decode (jm_cod M_Ref_isBetter) 11 = .ok (.iconst 4, 1) := dt_Ref_isBetter 8
theorem d_Ref_isBetter_12 : decode (jm_cod M_Ref_isBetter) 12 = .ok (.aload_n 0, 1) := dt_Ref_isBetter 9
theorem d_Ref_isBetter_13 : decode (jm_cod M_Ref_isBetter) 13 = .ok (.iconst 0, 1) := dt_Ref_isBetter 10
theorem d_Ref_isBetter_14 : decode (jm_cod M_Ref_isBetter) 14 = .ok (.iload_n 2, 1) := dt_Ref_isBetter 11
theorem d_Ref_isBetter_15 : decode (jm_cod M_Ref_isBetter) 15 = .ok (.iload_n 3, 1) := dt_Ref_isBetter 12
theorem d_Ref_isBetter_16 : decode (jm_cod M_Ref_isBetter) 16 = .ok (.invokevirtual 388, 3) := dt_Ref_isBetter 13
theorem d_Ref_isBetter_19 : decode (jm_cod M_Ref_isBetter) 19 = .ok (.imul, 1) := dt_Ref_isBetter 14
theorem d_Ref_isBetter_20 : decode (jm_cod M_Ref_isBetter) 20 = .ok (.istore 5, 2) := dt_Ref_isBetter 15
theorem d_Ref_isBetter_22 : decode (jm_cod M_Ref_isBetter) 22 = .ok (.aload_n 0, 1) := dt_Ref_isBetter 16
theorem d_Ref_isBetter_23 : decode (jm_cod M_Ref_isBetter) 23 = .ok (.getfield 532, 3) := dt_Ref_isBetter 17
theorem d_Ref_isBetter_26 : decode (jm_cod M_Ref_isBetter) 26 = .ok (.ifCond .ne 14, 3) := dt_Ref_isBetter 18
theorem d_Ref_isBetter_29 : decode (jm_cod M_Ref_isBetter) 29 = .ok (.iload_n 1, 1) := dt_Ref_isBetter 19
theorem d_Ref_isBetter_30 : decode (jm_cod M_Ref_isBetter) 30 = .ok (.iload_n 2, 1) := dt_Ref_isBetter 20
theorem d_Ref_isBetter_31 : decode (jm_cod M_Ref_isBetter) 31 = .ok (.if_icmp .ge 7, 3) := dt_Ref_isBetter 21
theorem d_Ref_isBetter_34 : decode (jm_cod M_Ref_isBetter) 34 = .ok (.iconst 1, 1) := dt_Ref_isBetter 22
theorem d_Ref_isBetter_35 : decode (jm_cod M_Ref_isBetter) 35 = .ok (.goto 4, 3) := dt_Ref_isBetter 23
theorem d_Ref_isBetter_38 : decode (jm_cod M_Ref_isBetter) 38 = .ok (.iconst 0, 1) := dt_Ref_isBetter 24
theorem d_Ref_isBetter_39 : decode (jm_cod M_Ref_isBetter) 39 = .ok (.ireturn, 1) := dt_Ref_isBetter 25
theorem d_Ref_isBetter_40 : decode (jm_cod M_Ref_isBetter) 40 = .ok (.aload_n 0, 1) := dt_Ref_isBetter 26
theorem d_Ref_isBetter_41 : decode (jm_cod M_Ref_isBetter) 41 = .ok (.getfield 532, 3) := dt_Ref_isBetter 27
theorem d_Ref_isBetter_44 : decode (jm_cod M_Ref_isBetter) 44 = .ok (.iconst 2, 1) := dt_Ref_isBetter 28
theorem d_Ref_isBetter_45 : decode (jm_cod M_Ref_isBetter) 45 = .ok (.if_icmp .ne 48, 3) := dt_Ref_isBetter 29
theorem d_Ref_isBetter_48 : decode (jm_cod M_Ref_isBetter) 48 = .ok (.aload_n 0, 1) := dt_Ref_isBetter 30
theorem d_Ref_isBetter_49 : decode (jm_cod M_Ref_isBetter) 49 = .ok (.getfield 112, 3) := dt_Ref_isBetter 31
theorem d_Ref_isBetter_52 : decode (jm_cod M_Ref_isBetter) 52 = .ok (.iload 4, 2) := dt_Ref_isBetter 32
theorem d_Ref_isBetter_54 : decode (jm_cod M_Ref_isBetter) 54 = .ok (.iaload, 1) := dt_Ref_isBetter 33
theorem d_Ref_isBetter_55 : decode (jm_cod M_Ref_isBetter) 55 = .ok (.aload_n 0, 1) := dt_Ref_isBetter 34
theorem d_Ref_isBetter_56 : decode (jm_cod M_Ref_isBetter) 56 = .ok (.getfield 112, 3) := dt_Ref_isBetter 35
theorem d_Ref_isBetter_59 : decode (jm_cod M_Ref_isBetter) 59 = .ok (.iload 5, 2) := dt_Ref_isBetter 36
theorem d_Ref_isBetter_61 : decode (jm_cod M_Ref_isBetter) 61 = .ok (.iaload, 1) := dt_Ref_isBetter 37
theorem d_Ref_isBetter_62 : decode (jm_cod M_Ref_isBetter) 62 = .ok (.if_icmp .lt 25, 3) := dt_Ref_isBetter 38
theorem d_Ref_isBetter_65 : decode (jm_cod M_Ref_isBetter) 65 = .ok (.aload_n 0, 1) := dt_Ref_isBetter 39
theorem d_Ref_isBetter_66 : decode (jm_cod M_Ref_isBetter) 66 = .ok (.getfield 112, 3) := dt_Ref_isBetter 40
theorem d_Ref_isBetter_69 : decode (jm_cod M_Ref_isBetter) 69 = .ok (.iload 4, 2) := dt_Ref_isBetter 41
theorem d_Ref_isBetter_71 : decode (jm_cod M_Ref_isBetter) 71 = .ok (.iaload, 1) := dt_Ref_isBetter 42
theorem d_Ref_isBetter_72 : decode (jm_cod M_Ref_isBetter) 72 = .ok (.aload_n 0, 1) := dt_Ref_isBetter 43
theorem d_Ref_isBetter_73 : decode (jm_cod M_Ref_isBetter) 73 = .ok (.getfield 112, 3) := dt_Ref_isBetter 44
theorem d_Ref_isBetter_76 : decode (jm_cod M_Ref_isBetter) 76 = .ok (.iload 5, 2) := dt_Ref_isBetter 45
theorem d_Ref_isBetter_78 : decode (jm_cod M_Ref_isBetter) 78 = .ok (.iaload, 1) := dt_Ref_isBetter 46
theorem d_Ref_isBetter_79 : decode (jm_cod M_Ref_isBetter) 79 = .ok (.if_icmp .ne 12, 3) := dt_Ref_isBetter 47
theorem d_Ref_isBetter_82 : decode (jm_cod M_Ref_isBetter) 82 = .ok (.iload_n 1, 1) := dt_Ref_isBetter 48
theorem d_Ref_isBetter_83 : decode (jm_cod M_Ref_isBetter) 83 = .ok (.iload_n 2, 1) := dt_Ref_isBetter 49
theorem d_Ref_isBetter_84 : decode (jm_cod M_Ref_isBetter) 84 = .ok (.if_icmp .ge 7, 3) := dt_Ref_isBetter 50
theorem d_Ref_isBetter_87 : decode (jm_cod M_Ref_isBetter) 87 = .ok (.iconst 1, 1) := dt_Ref_isBetter 51
theorem d_Ref_isBetter_88 : decode (jm_cod M_Ref_isBetter) 88 = .ok (.goto 4, 3) := dt_Ref_isBetter 52
theorem d_Ref_isBetter_91 : decode (jm_cod M_Ref_isBetter) 91 = .ok (.iconst 0, 1) := dt_Ref_isBetter 53
theorem d_Ref_isBetter_92 : decode (jm_cod M_Ref_isBetter) 92 = .ok (.ireturn, 1) := dt_Ref_isBetter 54
theorem d_Ref_isBetter_93 : decode (jm_cod M_Ref_isBetter) 93 = .ok (.aload_n 0, 1) := dt_Ref_isBetter 55
theorem d_Ref_isBetter_94 : decode (jm_cod M_Ref_isBetter) 94 = .ok (.getfield 532, 3) := dt_Ref_isBetter 56
theorem d_Ref_isBetter_97 : decode (jm_cod M_Ref_isBetter) 97 = .ok (.iconst 3, 1) := dt_Ref_isBetter 57
theorem d_Ref_isBetter_98 : decode (jm_cod M_Ref_isBetter) 98 = .ok (.if_icmp .ne 30, 3) := dt_Ref_isBetter 58
theorem d_Ref_isBetter_101 : decode (jm_cod M_Ref_isBetter) 101 = .ok (.aload_n 0, 1) := dt_Ref_isBetter 59
theorem d_Ref_isBetter_102 : decode (jm_cod M_Ref_isBetter) 102 = .ok (.getfield 106, 3) := dt_Ref_isBetter 60
theorem d_Ref_isBetter_105 : decode (jm_cod M_Ref_isBetter) 105 = .ok (.iload 4, 2) := dt_Ref_isBetter 61
theorem d_Ref_isBetter_107 : decode (jm_cod M_Ref_isBetter) 107 = .ok (.laload, 1) := dt_Ref_isBetter 62
theorem d_Ref_isBetter_108 : decode (jm_cod M_Ref_isBetter) 108 = .ok (.invokestatic 535, 3) := dt_Ref_isBetter 63
theorem d_Ref_isBetter_111 : decode (jm_cod M_Ref_isBetter) 111 = .ok (.aload_n 0, 1) := dt_Ref_isBetter 64
theorem d_Ref_isBetter_112 : decode (jm_cod M_Ref_isBetter) 112 = .ok (.getfield 106, 3) := dt_Ref_isBetter 65
theorem d_Ref_isBetter_115 : decode (jm_cod M_Ref_isBetter) 115 = .ok (.iload 5, 2) := dt_Ref_isBetter 66
theorem d_Ref_isBetter_117 : decode (jm_cod M_Ref_isBetter) 117 = .ok (.laload, 1) := dt_Ref_isBetter 67
theorem d_Ref_isBetter_118 : decode (jm_cod M_Ref_isBetter) 118 = .ok (.invokestatic 535, 3) := dt_Ref_isBetter 68
theorem d_Ref_isBetter_121 : decode (jm_cod M_Ref_isBetter) 121 = .ok (.if_icmp .le 7, 3) := dt_Ref_isBetter 69
theorem d_Ref_isBetter_124 : decode (jm_cod M_Ref_isBetter) 124 = .ok (.iconst 1, 1) := dt_Ref_isBetter 70
theorem d_Ref_isBetter_125 : decode (jm_cod M_Ref_isBetter) 125 = .ok (.goto 4, 3) := dt_Ref_isBetter 71
theorem d_Ref_isBetter_128 : decode (jm_cod M_Ref_isBetter) 128 = .ok (.iconst 0, 1) := dt_Ref_isBetter 72
theorem d_Ref_isBetter_129 : decode (jm_cod M_Ref_isBetter) 129 = .ok (.ireturn, 1) := dt_Ref_isBetter 73
def tab_Ref_urgencyOf : List (Nat × Instr × Nat) := [(0, .lload_n 0, 1), (1, .bipush 31, 2), (3, .lshr, 1), (4, .ldc2_w 310, 3), (7, .land, 1), (8, .l2i, 1), (9, .ireturn, 1)]
theorem dt_Ref_urgencyOf (i : Nat) : decode (jm_cod M_Ref_urgencyOf) (tab_Ref_urgencyOf.getD i (0, .lload_n 0, 1)).1 = .ok ((tab_Ref_urgencyOf.getD i (0, .lload_n 0, 1)).2.1, (tab_Ref_urgencyOf.getD i (0, .lload_n 0, 1)).2.2) := j_tab (by decide +kernel) i
theorem d_Ref_urgencyOf_0 : decode (jm_cod M_Ref_urgencyOf) 0 = .ok (.lload_n 0, 1) := dt_Ref_urgencyOf 0
theorem d_Ref_urgencyOf_1 : decode (jm_cod M_Ref_urgencyOf) 1 = .ok (.bipush 31, 2) := dt_Ref_urgencyOf 1
theorem d_Ref_urgencyOf_3 : decode (jm_cod M_Ref_urgencyOf) 3 = .ok (.lshr, 1) := dt_Ref_urgencyOf 2
theorem d_Ref_urgencyOf_4 : decode (jm_cod M_Ref_urgencyOf) 4 = .ok (.ldc2_w 310, 3) := dt_Ref_urgencyOf 3
theorem d_Ref_urgencyOf_7 : decode (jm_cod M_Ref_urgencyOf) 7 = .ok (.land, 1) := dt_Ref_urgencyOf 4
theorem d_Ref_urgencyOf_8 : decode (jm_cod M_Ref_urgencyOf) 8 = .ok (.l2i, 1) := dt_Ref_urgencyOf 5
theorem d_Ref_urgencyOf_9 : decode (jm_cod M_Ref_urgencyOf) 9 = .ok (.ireturn, 1) := dt_Ref_urgencyOf 6
def tab_Ref_moveData : List (Nat × Instr × Nat) := [(0, .aload_n 0, 1), (1, .iconst 0, 1), (2, .iload_n 1, 1), (3, .iconst 1, 1), (4, .invokevirtual 388, 3), (7, .istore_n 2, 1), (8, .iconst (-1), 1), (9, .istore_n 3, 1), (10, .aload_n 0, 1), (11, .getfield 526, 3), (14, .iconst 1, 1), (15, .isub, 1), (16, .istore 4, 2), (18, .iload 4, 2), (20, .ifCond .lt 37, 3), (23, .aload_n 0, 1), (24, .getfield 118, 3), (27, .iload 4, 2), (29, .iaload, 1), (30, .iload_n 1, 1), (31, .if_icmp .ne 18, 3), (34, .aload_n 0, 1), (35, .getfield 127, 3), (38, .iload 4, 2), (40, .iaload, 1), (41, .ifCond .le 8, 3), (44, .iload 4, 2), (46, .goto 4, 3), (49, .iload_n 3, 1), (50, .istore_n 3, 1), (51, .iinc 4 (-1), 3), (54, .goto (-36), 3), (57, .aload_n 0, 1), (58, .getfield 115, 3), (61, .iload_n 2, 1), (62, .iaload, 1), (63, .ifCond .eq 8, 3), (66, .iload_n 3, 1), (67, .iconst (-1), 1), (68, .if_icmp .ne 4, 3), (71, .return_, 1), (72, .iconst (-1), 1), (73, .istore 4, 2), (75, .aload_n 0, 1), (76, .getfield 526, 3), (79, .iconst 1, 1), (80, .isub, 1), (81, .istore 5, 2), (83, .iload 5, 2), (85, .ifCond .lt 44, 3), (88, .aload_n 0, 1), (89, .getfield 124, 3), (92, .iload 5, 2), (94, .iaload, 1), (95, .aload_n 0, 1), (96, .getfield 124, 3), (99, .iload_n 3, 1), (100, .iaload, 1), (101, .if_icmp .ne 18, 3), (104, .aload_n 0, 1), (105, .getfield 127, 3), (108, .iload 5, 2), (110, .iaload, 1), (111, .ifCond .le 8, 3), (114, .iload 5, 2), (116, .goto 5, 3), (119, .iload 4, 2), (121, .istore 4, 2), (123, .iinc 5 (-1), 3), (126, .goto (-43), 3), (129, .aload_n 0, 1), (130, .iconst 1, 1), (131, .aload_n 0, 1), (132, .getfield 124, 3), (135, .iload_n 3, 1), (136, .iaload, 1), (137, .iconst 1, 1), (138, .invokevirtual 388, 3), (141, .istore 5, 2), (143, .iload 4, 2), (145, .iload_n 3, 1), (146, .if_icmp .ne 53, 3), (149, .aload_n 0, 1), (150, .iload 5, 2), (152, .invokevirtual 392, 3), (155, .ifCond .eq 44, 3), (158, .aload_n 0, 1), (159, .iload 5, 2), (161, .aload_n 0, 1), (162, .getfield 106, 3), (165, .iconst 4, 1), (166, .iload_n 2, 1), (167, .imul, 1), (168, .laload, 1), (169, .aload_n 0, 1), (170, .getfield 109, 3), (173, .iconst 4, 1), (174, .iload_n 2, 1), (175, .imul, 1), (176, .iaload, 1), (177, .aload_n 0, 1), (178, .getfield 348, 3), (181, .invokevirtual 469, 3), (184, .aload_n 0, 1), (185, .iload_n 2, 1), (186, .invokevirtual 473, 3), (189, .aload_n 0, 1), (190, .getfield 127, 3), (193, .iload_n 3, 1), (194, .dup2, 1), (195, .iaload, 1), (196, .iconst 1, 1), (197, .isub, 1), (198, .iastore, 1), (199, .return_, 1)]
theorem dt_Ref_moveData (i : Nat) : decode (jm_cod M_Ref_moveData) (tab_Ref_moveData.getD i (0, .aload_n 0, 1)).1 = .ok ((tab_Ref_moveData.getD i (0, .aload_n 0, 1)).2.1, (tab_Ref_moveData.getD i (0, .aload_n 0, 1)).2.2) := j_tab (by decide +kernel) i
theorem d_Ref_moveData_0 : decode (jm_cod M_Ref_moveData) 0 = .ok (.aload_n 0, 1) := dt_Ref_moveData 0
theorem d_Ref_moveData_1 : decode (jm_cod M_Ref_moveData) 1 = .ok (.iconst 0, 1) := dt_Ref_moveData 1
theorem d_Ref_moveData_2 : decode (jm_cod M_Ref_moveData) 2 = .ok (.iload_n 1, 1) := dt_Ref_moveData 2
theorem d_Ref_moveData_3 : decode (jm_cod M_Ref_moveData) 3 = .ok (.iconst 1, 1) := dt_Ref_moveData 3
theorem d_Ref_moveData_4 : decode (jm_cod M_Ref_moveData) 4 = .ok (.invokevirtual 388, 3) := dt_Ref_moveData 4
theorem d_Ref_moveData_7 : decode (jm_cod M_Ref_moveData) 7 = .ok (.istore_n 2, 1) := dt_Ref_moveData 5
theorem d_Ref_moveData_8 : decode (jm_cod M_Ref_moveData) 8 = .ok (.iconst (-1), 1) := dt_Ref_moveData 6
theorem d_Ref_moveData_9 : decode (jm_cod M_Ref_moveData) 9 = .ok (.istore_n 3, 1) := dt_Ref_moveData 7
theorem d_Ref_moveData_10 : decode (jm_cod M_Ref_moveData) 10 = .ok (.aload_n 0, 1) := dt_Ref_moveData 8
theorem d_Ref_moveData_11 : decode (jm_cod M_Ref_moveData) 11 = .ok (.getfield 526, 3) := dt_Ref_moveData 9
theorem d_Ref_moveData_14 : decode (jm_cod M_Ref_moveData) 14 = .ok (.iconst 1, 1) := dt_Ref_moveData 10
theorem d_Ref_moveData_15 : decode (jm_cod M_Ref_moveData) 15 = .ok (.isub, 1) := dt_Ref_moveData 11
theorem d_Ref_moveData_16 : decode (jm_cod M_Ref_moveData) 16 = .ok (.istore 4, 2) := dt_Ref_moveData 12
theorem d_Ref_moveData_18 : decode (jm_cod M_Ref_moveData) 18 = .ok (.iload 4, 2) := dt_Ref_moveData 13
theorem d_Ref_moveData_20 : decode (jm_cod M_Ref_moveData) 20 = .ok (.ifCond .lt 37, 3) := dt_Ref_moveData 14
theorem d_Ref_moveData_23 : decode (jm_cod M_Ref_moveData) 23 = .ok (.aload_n 0, 1) := dt_Ref_moveData 15
theorem d_Ref_moveData_24 : decode (jm_cod M_Ref_moveData) 24 = .ok (.getfield 118, 3) := dt_Ref_moveData 16
theorem d_Ref_moveData_27 : decode (jm_cod M_Ref_moveData) 27 = .ok (.iload 4, 2) := dt_Ref_moveData 17
theorem d_Ref_moveData_29 : decode (jm_cod M_Ref_moveData) 29 = .ok (.iaload, 1) := dt_Ref_moveData 18
theorem d_Ref_moveData_30 : decode (jm_cod M_Ref_moveData) 30 = .ok (.iload_n 1, 1) := dt_Ref_moveData 19
theorem d_Ref_moveData_31 : decode (jm_cod M_Ref_moveData) 31 = .ok (.if_icmp .ne 18, 3) := dt_Ref_moveData 20
theorem d_Ref_moveData_34 : decode (jm_cod M_Ref_moveData) 34 = .ok (.aload_n 0, 1) := dt_Ref_moveData 21
theorem d_Ref_moveData_35 : decode (jm_cod M_Ref_moveData) 35 = .ok (.getfield 127, 3) := dt_Ref_moveData 22
theorem d_Ref_moveData_38 : decode (jm_cod M_Ref_moveData) 38 = .ok (.iload 4, 2) := dt_Ref_moveData 23
theorem d_Ref_moveData_40 : decode (jm_cod M_Ref_moveData) 40 = .ok (.iaload, 1) := dt_Ref_moveData 24
theorem d_Ref_moveData_41 : decode (jm_cod M_Ref_moveData) 41 = .ok (.ifCond .le 8, 3) := dt_Ref_moveData 25
theorem d_Ref_moveData_44 : decode (jm_cod M_Ref_moveData) 44 = .ok (.iload 4, 2) := dt_Ref_moveData 26
theorem d_Ref_moveData_46 : decode (jm_cod M_Ref_moveData) 46 = .ok (.goto 4, 3) := dt_Ref_moveData 27
theorem d_Ref_moveData_49 : decode (jm_cod M_Ref_moveData) 49 = .ok (.iload_n 3, 1) := dt_Ref_moveData 28
theorem d_Ref_moveData_50 : decode (jm_cod M_Ref_moveData) 50 = .ok (.istore_n 3, 1) := dt_Ref_moveData 29
theorem d_Ref_moveData_51 : decode (jm_cod M_Ref_moveData) 51 = .ok (.iinc 4 (-1), 3) := dt_Ref_moveData 30
theorem d_Ref_moveData_54 : decode (jm_cod M_Ref_moveData) 54 = .ok (.goto (-36), 3) := dt_Ref_moveData 31
theorem d_Ref_moveData_57 : decode (jm_cod M_Ref_moveData) 57 = .ok (.aload_n 0, 1) := dt_Ref_moveData 32
theorem d_Ref_moveData_58 : decode (jm_cod M_Ref_moveData) 58 = .ok (.getfield 115, 3) := dt_Ref_moveData 33
theorem d_Ref_moveData_61 : decode (jm_cod M_Ref_moveData) 61 = .ok (.iload_n 2, 1) := dt_Ref_moveData 34
theorem d_Ref_moveData_62 : decode (jm_cod M_Ref_moveData) 62 = .ok (.iaload, 1) := dt_Ref_moveData 35
theorem d_Ref_moveData_63 : decode (jm_cod M_Ref_moveData) 63 = .ok (.ifCond .eq 8, 3) := dt_Ref_moveData 36
theorem d_Ref_moveData_66 : decode (jm_cod M_Ref_moveData) 66 = .ok (.iload_n 3, 1) := dt_Ref_moveData 37
theorem d_Ref_moveData_67 : decode (jm_cod M_Ref_moveData) 67 = .ok (.iconst (-1), 1) := dt_Ref_moveData 38
theorem d_Ref_moveData_68 : decode (jm_cod M_Ref_moveData) 68 = .ok (.if_icmp .ne 4, 3) := dt_Ref_moveData 39
theorem d_Ref_moveData_71 : decode (jm_cod M_Ref_moveData) 71 = .ok (.return_, 1) := dt_Ref_moveData 40
theorem d_Ref_moveData_72 : decode (jm_cod M_Ref_moveData) 72 = .ok (.iconst (-1), 1) := dt_Ref_moveData 41
theorem d_Ref_moveData_73 : decode (jm_cod M_Ref_moveData) 73 = .ok (.istore 4, 2) := dt_Ref_moveData 42
theorem d_Ref_moveData_75 : decode (jm_cod M_Ref_moveData) 75 = .ok (.aload_n 0, 1) := dt_Ref_moveData 43
theorem d_Ref_moveData_76 : decode (jm_cod M_Ref_moveData) 76 = .ok (.getfield 526, 3) := dt_Ref_moveData 44
theorem d_Ref_moveData_79 : decode (jm_cod M_Ref_moveData) 79 = .ok (.iconst 1, 1) := dt_Ref_moveData 45
theorem d_Ref_moveData_80 : decode (jm_cod M_Ref_moveData) 80 = .ok (.isub, 1) := dt_Ref_moveData 46
theorem d_Ref_moveData_81 : decode (jm_cod M_Ref_moveData) 81 = .ok (.istore 5, 2) := dt_Ref_moveData 47
theorem d_Ref_moveData_83 : decode (jm_cod M_Ref_moveData) 83 = .ok (.iload 5, 2) := dt_Ref_moveData 48
theorem d_Ref_moveData_85 : decode (jm_cod M_Ref_moveData) 85 = .ok (.ifCond .lt 44, 3) := dt_Ref_moveData 49
theorem d_Ref_moveData_88 : decode (jm_cod M_Ref_moveData) 88 = .ok (.aload_n 0, 1) := dt_Ref_moveData 50
theorem d_Ref_moveData_89 : decode (jm_cod M_Ref_moveData) 89 = .ok (.getfield 124, 3) := dt_Ref_moveData 51
theorem d_Ref_moveData_92 : decode (jm_cod M_Ref_moveData) 92 = .ok (.iload 5, 2) := dt_Ref_moveData 52
theorem d_Ref_moveData_94 : decode (jm_cod M_Ref_moveData) 94 = .ok (.iaload, 1) := dt_Ref_moveData 53
theorem d_Ref_moveData_95 : decode (jm_cod M_Ref_moveData) 95 = .ok (.aload_n 0, 1) := dt_Ref_moveData 54
theorem d_Ref_moveData_96 : decode (jm_cod M_Ref_moveData) 96 = .ok (.getfield 124, 3) := dt_Ref_moveData 55
theorem d_Ref_moveData_99 : decode (jm_cod M_Ref_moveData) 99 = .ok (.iload_n 3, 1) := dt_Ref_moveData 56
theorem d_Ref_moveData_100 : decode (jm_cod M_Ref_moveData) 100 = .ok (.iaload, 1) := dt_Ref_moveData 57
theorem d_Ref_moveData_101 : decode (jm_cod M_Ref_moveData) 101 = .ok (.if_icmp .ne 18, 3) := dt_Ref_moveData 58
theorem d_Ref_moveData_104 : decode (jm_cod M_Ref_moveData) 104 = .ok (.aload_n 0, 1) := dt_Ref_moveData 59
theorem d_Ref_moveData_105 : decode (jm_cod M_Ref_moveData) 105 = .ok (.getfield 127, 3) := dt_Ref_moveData 60
theorem d_Ref_moveData_108 : decode (jm_cod M_Ref_moveData) 108 = .ok (.iload 5, 2) := dt_Ref_moveData 61
theorem d_Ref_moveData_110 : decode (jm_cod M_Ref_moveData) 110 = .ok (.iaload, 1) := dt_Ref_moveData 62
theorem d_Ref_moveData_111 : decode (jm_cod M_Ref_moveData) 111 = .ok (.ifCond .le 8, 3) := dt_Ref_moveData 63
theorem d_Ref_moveData_114 : decode (jm_cod M_Ref_moveData) 114 = .ok (.iload 5, 2) := dt_Ref_moveData 64
theorem d_Ref_moveData_116 : decode (jm_cod M_Ref_moveData) 116 = .ok (.goto 5, 3) := dt_Ref_moveData 65
theorem d_Ref_moveData_119 : decode (jm_cod M_Ref_moveData) 119 = .ok (.iload 4, 2) := dt_Ref_moveData 66
theorem d_Ref_moveData_121 : decode (jm_cod M_Ref_moveData) 121 = .ok (.istore 4, 2) := dt_Ref_moveData 67
theorem d_Ref_moveData_123 : decode (jm_cod M_Ref_moveData) 123 = .ok (.iinc 5 (-1), 3) := dt_Ref_moveData 68
theorem d_Ref_moveData_126 : decode (jm_cod M_Ref_moveData) 126 = .ok (.goto (-43), 3) := dt_Ref_moveData 69
theorem d_Ref_moveData_129 : decode (jm_cod M_Ref_moveData) 129 = .ok (.aload_n 0, 1) := dt_Ref_moveData 70
theorem d_Ref_moveData_130 : decode (jm_cod M_Ref_moveData) 130 = .ok (.iconst 1, 1) := dt_Ref_moveData 71
theorem d_Ref_moveData_131 : decode (jm_cod M_Ref_moveData) 131 = .ok (.aload_n 0, 1) := dt_Ref_moveData 72
theorem d_Ref_moveData_132 : decode (jm_cod M_Ref_moveData) 132 = .ok (.getfield 124, 3) := dt_Ref_moveData 73
theorem d_Ref_moveData_135 : decode (jm_cod M_Ref_moveData) 135 = .ok (.iload_n 3, 1) := dt_Ref_moveData 74
theorem d_Ref_moveData_136 : decode (jm_cod M_Ref_moveData) 136 = .ok (.iaload, 1) := dt_Ref_moveData 75
theorem d_Ref_moveData_137 : decode (jm_cod M_Ref_moveData) 137 = .ok (.iconst 1, 1) := dt_Ref_moveData 76
theorem d_Ref_moveData_138 : decode (jm_cod M_Ref_moveData) 138 = .ok (.invokevirtual 388, 3) := dt_Ref_moveData 77
theorem d_Ref_moveData_141 : decode (jm_cod M_Ref_moveData) 141 = .ok (.istore 5, 2) := dt_Ref_moveData 78
theorem d_Ref_moveData_143 : decode (jm_cod M_Ref_moveData) 143 = .ok (.iload 4, 2) := dt_Ref_moveData 79
theorem d_Ref_moveData_145 : decode (jm_cod M_Ref_moveData) 145 = .ok (.iload_n 3, 1) := dt_Ref_moveData 80
theorem d_Ref_moveData_146 : decode (jm_cod M_Ref_moveData) 146 = .ok (.if_icmp .ne 53, 3) := dt_Ref_moveData 81
theorem d_Ref_moveData_149 : decode (jm_cod M_Ref_moveData) 149 = .ok (.aload_n 0, 1) := dt_Ref_moveData 82
theorem d_Ref_moveData_150 : decode (jm_cod M_Ref_moveData) 150 = .ok (.iload 5, 2) := dt_Ref_moveData 83
theorem d_Ref_moveData_152 : decode (jm_cod M_Ref_moveData) 152 = .ok (.invokevirtual 392, 3) := dt_Ref_moveData 84
theorem d_Ref_moveData_155 : decode (jm_cod M_Ref_moveData) 155 = .ok (.ifCond .eq 44, 3) := dt_Ref_moveData 85
theorem d_Ref_moveData_158 : decode (jm_cod M_Ref_moveData) 158 = .ok (.aload_n 0, 1) := dt_Ref_moveData 86
theorem d_Ref_moveData_159 : decode (jm_cod M_Ref_moveData) 159 = .ok (.iload 5, 2) := dt_Ref_moveData 87
theorem d_Ref_moveData_161 : decode (jm_cod M_Ref_moveData) 161 = .ok (.aload_n 0, 1) := dt_Ref_moveData 88
theorem d_Ref_moveData_162 : decode (jm_cod M_Ref_moveData) 162 = .ok (.getfield 106, 3) := dt_Ref_moveData 89
theorem d_Ref_moveData_165 : decode (jm_cod M_Ref_moveData) 165 = .ok (.iconst 4, 1) := dt_Ref_moveData 90
theorem d_Ref_moveData_166 : decode (jm_cod M_Ref_moveData) 166 = .ok (.iload_n 2, 1) := dt_Ref_moveData 91
theorem d_Ref_moveData_167 : decode (jm_cod M_Ref_moveData) 167 = .ok (.imul, 1) := dt_Ref_moveData 92
theorem d_Ref_moveData_168 : decode (jm_cod M_Ref_moveData) 168 = .ok (.laload, 1) := dt_Ref_moveData 93
theorem d_Ref_moveData_169 : decode (jm_cod M_Ref_moveData) 169 = .ok (.aload_n 0, 1) := dt_Ref_moveData 94
theorem d_Ref_moveData_170 : decode (jm_cod M_Ref_moveData) 170 = .ok (.getfield 109, 3) := dt_Ref_moveData 95
theorem d_Ref_moveData_173 : decode (jm_cod M_Ref_moveData) 173 = .ok (.iconst 4, 1) := dt_Ref_moveData 96
theorem d_Ref_moveData_174 : decode (jm_cod M_Ref_moveData) 174 = .ok (.iload_n 2, 1) := dt_Ref_moveData 97
theorem d_Ref_moveData_175 : decode (jm_cod M_Ref_moveData) 175 = .ok (.imul, 1) := dt_Ref_moveData 98
theorem d_Ref_moveData_176 : decode (jm_cod M_Ref_moveData) 176 = .ok (.iaload, 1) := dt_Ref_moveData 99
theorem d_Ref_moveData_177 : decode (jm_cod M_Ref_moveData) 177 = .ok (.aload_n 0, 1) := dt_Ref_moveData 100
theorem d_Ref_moveData_178 : decode (jm_cod M_Ref_moveData) 178 = .ok (.getfield 348, 3) := dt_Ref_moveData 101
theorem d_Ref_moveData_181 : decode (jm_cod M_Ref_moveData) 181 = .ok (.invokevirtual 469, 3) := dt_Ref_moveData 102
theorem d_Ref_moveData_184 : decode (jm_cod M_Ref_moveData) 184 = .ok (.aload_n 0, 1) := dt_Ref_moveData 103
theorem d_Ref_moveData_185 : decode (jm_cod M_Ref_moveData) 185 = .ok (.iload_n 2, 1) := dt_Ref_moveData 104
theorem d_Ref_moveData_186 : decode (jm_cod M_Ref_moveData) 186 = .ok (.invokevirtual 473, 3) := dt_Ref_moveData 105
theorem d_Ref_moveData_189 : decode (jm_cod M_Ref_moveData) 189 = .ok (.aload_n 0, 1) := dt_Ref_moveData 106
theorem d_Ref_moveData_190 : decode (jm_cod M_Ref_moveData) 190 = .ok (.getfield 127, 3) := dt_Ref_moveData 107
theorem d_Ref_moveData_193 : decode (jm_cod M_Ref_moveData) 193 = .ok (.iload_n 3, 1) := dt_Ref_moveData 108
theorem d_Ref_moveData_194 : decode (jm_cod M_Ref_moveData) 194 = .ok (.dup2, 1) := dt_Ref_moveData 109
theorem d_Ref_moveData_195 : decode (jm_cod M_Ref_moveData) 195 = .ok (.iaload, 1) := dt_Ref_moveData 110
theorem d_Ref_moveData_196 : decode (jm_cod M_Ref_moveData) 196 = .ok (.iconst 1, 1) := dt_Ref_moveData 111
theorem d_Ref_moveData_197 : decode (jm_cod M_Ref_moveData) 197 = .ok (.isub, 1) := dt_Ref_moveData 112
theorem d_Ref_moveData_198 : decode (jm_cod M_Ref_moveData) 198 = .ok (.iastore, 1) := dt_Ref_moveData 113
theorem d_Ref_moveData_199 : decode (jm_cod M_Ref_moveData) 199 = .ok (.return_, 1) := dt_Ref_moveData 114
def tab_Ref_workDefault : List (Nat × Instr × Nat) := [(0, .aload_n 0, 1), (1, .iconst 1, 1), (2, .aload_n 0, 1), (3, .getfield 294, 3), (6, .iconst 1, 1), (7, .invokevirtual 388, 3), (10, .istore_n 1, 1), (11, .aload_n 0, 1), (12, .iconst 1, 1), (13, .aload_n 0, 1), (14, .getfield 294, 3), (17, .iconst 2, 1), (18, .invokevirtual 388, 3), (21, .istore_n 2, 1), (22, .aload_n 0, 1), (23, .getfield 109, 3), (26, .iconst 4, 1), (27, .iload_n 1, 1), (28, .imul, 1), (29, .iaload, 1), (30, .sipush 256, 3), (33, .iand, 1), (34, .ifCond .eq 7, 3), (37, .iconst 1, 1), (38, .goto 4, 3), (41, .iconst 0, 1), (42, .istore_n 3, 1), (43, .aload_n 0, 1), (44, .getfield 115, 3), (47, .iload_n 1, 1), (48, .iaload, 1), (49, .ifCond .le 68, 3), (52, .iload_n 3, 1), (53, .ifCond .eq 11, 3), (56, .aload_n 0, 1), (57, .iload_n 2, 1), (58, .invokevirtual 392, 3), (61, .ifCond .eq 56, 3), (64, .aload_n 0, 1), (65, .iload_n 1, 1), (66, .invokevirtual 473, 3), (69, .iload_n 3, 1), (70, .ifCond .eq 47, 3), (73, .aload_n 0, 1), (74, .iconst 1, 1), (75, .aload_n 0, 1), (76, .getfield 294, 3), (79, .iconst 0, 1), (80, .invokevirtual 388, 3), (83, .istore 4, 2), (85, .aload_n 0, 1), (86, .iload_n 2, 1), (87, .lconst 0, 1), (88, .aload_n 0, 1), (89, .getfield 106, 3), (92, .iconst 4, 1), (93, .iload 4, 2), (95, .imul, 1), (96, .laload, 1), (97, .invokestatic 396, 3), (100, .sipush 192, 3), (103, .iadd, 1), (104, .aload_n 0, 1), (105, .getfield 348, 3), (108, .invokevirtual 469, 3), (111, .aload_n 0, 1), (112, .iload 4, 2), (114, .invokevirtual 473, 3), (117, .aload_n 0, 1), (118, .iconst 1, 1), (119, .aload_n 0, 1), (120, .getfield 294, 3), (123, .iconst 3, 1), (124, .invokevirtual 388, 3), (127, .istore 4, 2), (129, .aload_n 0, 1), (130, .iconst 1, 1), (131, .aload_n 0, 1), (132, .getfield 294, 3), (135, .iconst 4, 1), (136, .invokevirtual 388, 3), (139, .istore 5, 2), (141, .aload_n 0, 1), (142, .getfield 115, 3), (145, .iload 4, 2), (147, .iaload, 1), (148, .ifCond .le 101, 3), (151, .aload_n 0, 1), (152, .iload 5, 2), (154, .invokevirtual 392, 3), (157, .ifCond .eq 92, 3), (160, .aload_n 0, 1), (161, .getfield 106, 3), (164, .iconst 4, 1), (165, .iload 4, 2), (167, .imul, 1), (168, .laload, 1), (169, .lstore 6, 2), (171, .aload_n 0, 1), (172, .dup, 1), (173, .getfield 553, 3), (176, .iconst 1, 1), (177, .iadd, 1), (178, .putfield 553, 3), (181, .aload_n 0, 1), (182, .getfield 553, 3), (185, .lload 6, 2), (187, .invokestatic 321, 3), (190, .if_icmp .ne 7, 3), (193, .iconst 1, 1), (194, .goto 4, 3), (197, .iconst 0, 1), (198, .istore 8, 2), (200, .aload_n 0, 1), (201, .iload 5, 2), (203, .lconst 0, 1), (204, .lload 6, 2), (206, .invokestatic 396, 3), (209, .sipush 192, 3), (212, .iadd, 1), (213, .iload 8, 2), (215, .ifCond .eq 9, 3), (218, .sipush 256, 3), (221, .goto 4, 3), (224, .iconst 0, 1), (225, .iadd, 1), (226, .aload_n 0, 1), (227, .getfield 348, 3), (230, .invokevirtual 469, 3), (233, .iload 8, 2), (235, .ifCond .eq 14, 3), (238, .aload_n 0, 1), (239, .iconst 0, 1), (240, .putfield 553, 3), (243, .aload_n 0, 1), (244, .iload 4, 2), (246, .invokevirtual 473, 3), (249, .return_, 1)]
theorem dt_Ref_workDefault (i : Nat) : decode (jm_cod M_Ref_workDefault) (tab_Ref_workDefault.getD i (0, .aload_n 0, 1)).1 = .ok ((tab_Ref_workDefault.getD i (0, .aload_n 0, 1)).2.1, (tab_Ref_workDefault.getD i (0, .aload_n 0, 1)).2.2) := j_tab (by decide +kernel) i
theorem d_Ref_workDefault_0 : decode (jm_cod M_Ref_workDefault) 0 = .ok (.aload_n 0, 1) := dt_Ref_workDefault 0
theorem d_Ref_workDefault_1 : decode (jm_cod M_Ref_workDefault) 1 = .ok (.iconst 1, 1) := dt_Ref_workDefault 1
theorem d_Ref_workDefault_2 : decode (jm_cod M_Ref_workDefault) 2 = .ok (.aload_n 0, 1) := dt_Ref_workDefault 2
theorem d_Ref_workDefault_3 : decode (jm_cod M_Ref_workDefault) 3 = .ok (.getfield 294, 3) := dt_Ref_workDefault 3
theorem d_Ref_workDefault_6 : decode (jm_cod M_Ref_workDefault) 6 = .ok (.iconst 1, 1) := dt_Ref_workDefault 4
theorem d_Ref_workDefault_7 : decode (jm_cod M_Ref_workDefault) 7 = .ok (.invokevirtual 388, 3) := dt_Ref_workDefault 5
theorem d_Ref_workDefault_10 : decode (jm_cod M_Ref_workDefault) 10 = .ok (.istore_n 1, 1) := dt_Ref_workDefault 6
theorem d_Ref_workDefault_11 : decode (jm_cod M_Ref_workDefault) 11 = .ok (.aload_n 0, 1) := dt_Ref_workDefault 7
theorem d_Ref_workDefault_12 : decode (jm_cod M_Ref_workDefault) 12 = .ok (.iconst 1, 1) := dt_Ref_workDefault 8
theorem d_Ref_workDefault_13 : decode (jm_cod M_Ref_workDefault) 13 = .ok (.aload_n 0, 1) := dt_Ref_workDefault 9
theorem d_Ref_workDefault_14 : decode (jm_cod M_Ref_workDefault) 14 = .ok (.getfield 294, 3) := dt_Ref_workDefault 10
theorem d_Ref_workDefault_17 : decode (jm_cod M_Ref_workDefault) 17 = .ok (.iconst 2, 1) := dt_Ref_workDefault 11
theorem d_Ref_workDefault_18 : decode (jm_cod M_Ref_workDefault) 18 = .ok (.invokevirtual 388, 3) := dt_Ref_workDefault 12
theorem d_Ref_workDefault_21 : decode (jm_cod M_Ref_workDefault) 21 = .ok (.istore_n 2, 1) := dt_Ref_workDefault 13
theorem d_Ref_workDefault_22 : decode (jm_cod M_Ref_workDefault) 22 = .ok (.aload_n 0, 1) := dt_Ref_workDefault 14
theorem d_Ref_workDefault_23 : decode (jm_cod M_Ref_workDefault) 23 = .ok (.getfield 109, 3) := dt_Ref_workDefault 15
theorem d_Ref_workDefault_26 : decode (jm_cod M_Ref_workDefault) 26 = .ok (.iconst 4, 1) := dt_Ref_workDefault 16
theorem d_Ref_workDefault_27 : decode (jm_cod M_Ref_workDefault) 27 = .ok (.iload_n 1, 1) := dt_Ref_workDefault 17
theorem d_Ref_workDefault_28 : decode (jm_cod M_Ref_workDefault) 28 = .ok (.imul, 1) := dt_Ref_workDefault 18
theorem d_Ref_workDefault_29 : decode (jm_cod M_Ref_workDefault) 29 = .ok (.iaload, 1) := dt_Ref_workDefault 19
theorem d_Ref_workDefault_30 : decode (jm_cod M_Ref_workDefault) 30 = .ok (.sipush 256, 3) := dt_Ref_workDefault 20
theorem d_Ref_workDefault_33 : decode (jm_cod M_Ref_workDefault) 33 = .ok (.iand, 1) := dt_Ref_workDefault 21
theorem d_Ref_workDefault_34 : decode (jm_cod M_Ref_workDefault) 34 = .ok (.ifCond .eq 7, 3) := dt_Ref_workDefault 22
theorem d_Ref_workDefault_37 : decode (jm_cod M_Ref_workDefault) 37 = .ok (.iconst 1, 1) := dt_Ref_workDefault 23
theorem d_Ref_workDefault_38 : decode (jm_cod M_Ref_workDefault) 38 = .ok (.goto 4, 3) := dt_Ref_workDefault 24
theorem d_Ref_workDefault_41 : decode (jm_cod M_Ref_workDefault) 41 = .ok (.iconst 0, 1) := dt_Ref_workDefault 25
theorem d_Ref_workDefault_42 : decode (jm_cod M_Ref_workDefault) 42 = .ok (.istore_n 3, 1) := dt_Ref_workDefault 26
theorem d_Ref_workDefault_43 : decode (jm_cod M_Ref_workDefault) 43 = .ok (.aload_n 0, 1) := dt_Ref_workDefault 27
theorem d_Ref_workDefault_44 : decode (jm_cod M_Ref_workDefault) 44 = .ok (.getfield 115, 3) := dt_Ref_workDefault 28
theorem d_Ref_workDefault_47 : decode (jm_cod M_Ref_workDefault) 47 = .ok (.iload_n 1, 1) := dt_Ref_workDefault 29
theorem d_Ref_workDefault_48 : decode (jm_cod M_Ref_workDefault) 48 = .ok (.iaload, 1) := dt_Ref_workDefault 30
theorem d_Ref_workDefault_49 : decode (jm_cod M_Ref_workDefault) 49 = .ok (.ifCond .le 68, 3) := dt_Ref_workDefault 31
theorem d_Ref_workDefault_52 : decode (jm_cod M_Ref_workDefault) 52 = .ok (.iload_n 3, 1) := dt_Ref_workDefault 32
theorem d_Ref_workDefault_53 : decode (jm_cod M_Ref_workDefault) 53 = .ok (.ifCond .eq 11, 3) := dt_Ref_workDefault 33
theorem d_Ref_workDefault_56 : decode (jm_cod M_Ref_workDefault) 56 = .ok (.aload_n 0, 1) := dt_Ref_workDefault 34
theorem d_Ref_workDefault_57 : decode (jm_cod M_Ref_workDefault) 57 = .ok (.iload_n 2, 1) := dt_Ref_workDefault 35
theorem d_Ref_workDefault_58 : decode (jm_cod M_Ref_workDefault) 58 = .ok (.invokevirtual 392, 3) := dt_Ref_workDefault 36
theorem d_Ref_workDefault_61 : decode (jm_cod M_Ref_workDefault) 61 = .ok (.ifCond .eq 56, 3) := dt_Ref_workDefault 37
theorem d_Ref_workDefault_64 : decode (jm_cod M_Ref_workDefault) 64 = .ok (.aload_n 0, 1) := dt_Ref_workDefault 38
theorem d_Ref_workDefault_65 : decode (jm_cod M_Ref_workDefault) 65 = .ok (.iload_n 1, 1) := dt_Ref_workDefault 39
theorem d_Ref_workDefault_66 : decode (jm_cod M_Ref_workDefault) 66 = .ok (.invokevirtual 473, 3) := dt_Ref_workDefault 40
theorem d_Ref_workDefault_69 : decode (jm_cod M_Ref_workDefault) 69 = .ok (.iload_n 3, 1) := dt_Ref_workDefault 41
theorem d_Ref_workDefault_70 : decode (jm_cod M_Ref_workDefault) 70 = .ok (.ifCond .eq 47, 3) := dt_Ref_workDefault 42
theorem d_Ref_workDefault_73 : decode (jm_cod M_Ref_workDefault) 73 = .ok (.aload_n 0, 1) := dt_Ref_workDefault 43
theorem d_Ref_workDefault_74 : decode (jm_cod M_Ref_workDefault) 74 = .ok (.iconst 1, 1) := dt_Ref_workDefault 44
theorem d_Ref_workDefault_75 : decode (jm_cod M_Ref_workDefault) 75 = .ok (.aload_n 0, 1) := dt_Ref_workDefault 45
theorem d_Ref_workDefault_76 : decode (jm_cod M_Ref_workDefault) 76 = .ok (.getfield 294, 3) := dt_Ref_workDefault 46
theorem d_Ref_workDefault_79 : decode (jm_cod M_Ref_workDefault) 79 = .ok (.iconst 0, 1) := dt_Ref_workDefault 47
theorem d_Ref_workDefault_80 : decode (jm_cod M_Ref_workDefault) 80 = .ok (.invokevirtual 388, 3) := dt_Ref_workDefault 48
theorem d_Ref_workDefault_83 : decode (jm_cod M_Ref_workDefault) 83 = .ok (.istore 4, 2) := dt_Ref_workDefault 49
theorem d_Ref_workDefault_85 : decode (jm_cod M_Ref_workDefault) 85 = .ok (.aload_n 0, 1) := dt_Ref_workDefault 50
theorem d_Ref_workDefault_86 : decode (jm_cod M_Ref_workDefault) 86 = .ok (.iload_n 2, 1) := dt_Ref_workDefault 51
theorem d_Ref_workDefault_87 : decode (jm_cod M_Ref_workDefault) 87 = .ok (.lconst 0, 1) := dt_Ref_workDefault 52
theorem d_Ref_workDefault_88 : decode (jm_cod M_Ref_workDefault) 88 = .ok (.aload_n 0, 1) := dt_Ref_workDefault 53
theorem d_Ref_workDefault_89 : decode (jm_cod M_Ref_workDefault) 89 = .ok (.getfield 106, 3) := dt_Ref_workDefault 54
theorem d_Ref_workDefault_92 : decode (jm_cod M_Ref_workDefault) 92 = .ok (.iconst 4, 1) := dt_Ref_workDefault 55
theorem d_Ref_workDefault_93 : decode (jm_cod M_Ref_workDefault) 93 = .ok (.iload 4, 2) := dt_Ref_workDefault 56
theorem d_Ref_workDefault_95 : decode (jm_cod M_Ref_workDefault) 95 = .ok (.imul, 1) := dt_Ref_workDefault 57
theorem d_Ref_workDefault_96 : decode (jm_cod M_Ref_workDefault) 96 = .ok (.laload, 1) := dt_Ref_workDefault 58
theorem d_Ref_workDefault_97 : decode (jm_cod M_Ref_workDefault) 97 = .ok (.invokestatic 396, 3) := dt_Ref_workDefault 59
theorem d_Ref_workDefault_100 : decode (jm_cod M_Ref_workDefault) 100 = .ok (.sipush 192, 3) := dt_Ref_workDefault 60
theorem d_Ref_workDefault_103 : decode (jm_cod M_Ref_workDefault) 103 = .ok (.iadd, 1) := dt_Ref_workDefault 61
theorem d_Ref_workDefault_104 : decode (jm_cod M_Ref_workDefault) 104 = .ok (.aload_n 0, 1) := dt_Ref_workDefault 62
theorem d_Ref_workDefault_105 : decode (jm_cod M_Ref_workDefault) 105 = .ok (.getfield 348, 3) := dt_Ref_workDefault 63
theorem d_Ref_workDefault_108 : decode (jm_cod M_Ref_workDefault) 108 = .ok (.invokevirtual 469, 3) := dt_Ref_workDefault 64
theorem d_Ref_workDefault_111 : decode (jm_cod M_Ref_workDefault) 111 = .ok (.aload_n 0, 1) := dt_Ref_workDefault 65
theorem d_Ref_workDefault_112 : decode (jm_cod M_Ref_workDefault) 112 = .ok (.iload 4, 2) := dt_Ref_workDefault 66
theorem d_Ref_workDefault_114 : decode (jm_cod M_Ref_workDefault) 114 = .ok (.invokevirtual 473, 3) := dt_Ref_workDefault 67
theorem d_Ref_workDefault_117 : decode (jm_cod M_Ref_workDefault) 117 = .ok (.aload_n 0, 1) := dt_Ref_workDefault 68
theorem d_Ref_workDefault_118 : decode (jm_cod M_Ref_workDefault) 118 = .ok (.iconst 1, 1) := dt_Ref_workDefault 69
theorem d_Ref_workDefault_119 : decode (jm_cod M_Ref_workDefault) 119 = .ok (.aload_n 0, 1) := dt_Ref_workDefault 70
theorem d_Ref_workDefault_120 : decode (jm_cod M_Ref_workDefault) 120 = .ok (.getfield 294, 3) := dt_Ref_workDefault 71
theorem d_Ref_workDefault_123 : decode (jm_cod M_Ref_workDefault) 123 = .ok (.iconst 3, 1) := dt_Ref_workDefault 72
theorem d_Ref_workDefault_124 : decode (jm_cod M_Ref_workDefault) 124 = .ok (.invokevirtual 388, 3) := dt_Ref_workDefault 73
theorem d_Ref_workDefault_127 : decode (jm_cod M_Ref_workDefault) 127 = .ok (.istore 4, 2) := dt_Ref_workDefault 74
theorem d_Ref_workDefault_129 : decode (jm_cod M_Ref_workDefault) 129 = .ok (.aload_n 0, 1) := dt_Ref_workDefault 75
theorem d_Ref_workDefault_130 : decode (jm_cod M_Ref_workDefault) 130 = .ok (.iconst 1, 1) := dt_Ref_workDefault 76
theorem d_Ref_workDefault_131 : decode (jm_cod M_Ref_workDefault) 131 = .ok (.aload_n 0, 1) := dt_Ref_workDefault 77
theorem d_Ref_workDefault_132 : decode (jm_cod M_Ref_workDefault) 132 = .ok (.getfield 294, 3) := dt_Ref_workDefault 78
theorem d_Ref_workDefault_135 : decode (jm_cod M_Ref_workDefault) 135 = .ok (.iconst 4, 1) := dt_Ref_workDefault 79
theorem d_Ref_workDefault_136 : decode (jm_cod M_Ref_workDefault) 136 = .ok (.invokevirtual 388, 3) := dt_Ref_workDefault 80
theorem d_Ref_workDefault_139 : decode (jm_cod M_Ref_workDefault) 139 = .ok (.istore 5, 2) := dt_Ref_workDefault 81
theorem d_Ref_workDefault_141 : decode (jm_cod M_Ref_workDefault) 141 = .ok (.aload_n 0, 1) := dt_Ref_workDefault 82
theorem d_Ref_workDefault_142 : decode (jm_cod M_Ref_workDefault) 142 = .ok (.getfield 115, 3) := dt_Ref_workDefault 83
theorem d_Ref_workDefault_145 : decode (jm_cod M_Ref_workDefault) 145 = .ok (.iload 4, 2) := dt_Ref_workDefault 84
theorem d_Ref_workDefault_147 : decode (jm_cod M_Ref_workDefault) 147 = .ok (.iaload, 1) := dt_Ref_workDefault 85
theorem d_Ref_workDefault_148 : decode (jm_cod M_Ref_workDefault) 148 = .ok (.ifCond .le 101, 3) := dt_Ref_workDefault 86
theorem d_Ref_workDefault_151 : decode (jm_cod M_Ref_workDefault) 151 = .ok (.aload_n 0, 1) := dt_Ref_workDefault 87
theorem d_Ref_workDefault_152 : decode (jm_cod M_Ref_workDefault) 152 = .ok (.iload 5, 2) := dt_Ref_workDefault 88
theorem d_Ref_workDefault_154 : decode (jm_cod M_Ref_workDefault) 154 = .ok (.invokevirtual 392, 3) := dt_Ref_workDefault 89
theorem d_Ref_workDefault_157 : decode (jm_cod M_Ref_workDefault) 157 = .ok (.ifCond .eq 92, 3) := dt_Ref_workDefault 90
theorem d_Ref_workDefault_160 : decode (jm_cod M_Ref_workDefault) 160 = .ok (.aload_n 0, 1) := dt_Ref_workDefault 91
theorem d_Ref_workDefault_161 : decode (jm_cod M_Ref_workDefault) 161 = .ok (.getfield 106, 3) := dt_Ref_workDefault 92
theorem d_Ref_workDefault_164 : decode (jm_cod M_Ref_workDefault) 164 = .ok (.iconst 4, 1) := dt_Ref_workDefault 93
theorem d_Ref_workDefault_165 : decode (jm_cod M_Ref_workDefault) 165 = .ok (.iload 4, 2) := dt_Ref_workDefault 94
theorem d_Ref_workDefault_167 : decode (jm_cod M_Ref_workDefault) 167 = .ok (.imul, 1) := dt_Ref_workDefault 95
theorem d_Ref_workDefault_168 : decode (jm_cod M_Ref_workDefault) 168 = .ok (.laload, 1) := dt_Ref_workDefault 96
theorem d_Ref_workDefault_169 : decode (jm_cod M_Ref_workDefault) 169 = .ok (.lstore 6, 2) := dt_Ref_workDefault 97
theorem d_Ref_workDefault_171 : decode (jm_cod M_Ref_workDefault) 171 = .ok (.aload_n 0, 1) := dt_Ref_workDefault 98
theorem d_Ref_workDefault_172 : decode (jm_cod M_Ref_workDefault) 172 = .ok (.dup, 1) := dt_Ref_workDefault 99
theorem d_Ref_workDefault_173 : decode (jm_cod M_Ref_workDefault) 173 = .ok (.getfield 553, 3) := dt_Ref_workDefault 100
theorem d_Ref_workDefault_176 : decode (jm_cod M_Ref_workDefault) 176 = .ok (.iconst 1, 1) := dt_Ref_workDefault 101
theorem d_Ref_workDefault_177 : decode (jm_cod M_Ref_workDefault) 177 = .ok (.iadd, 1) := dt_Ref_workDefault 102
theorem d_Ref_workDefault_178 : decode (jm_cod M_Ref_workDefault) 178 = .ok (.putfield 553, 3) := dt_Ref_workDefault 103
theorem d_Ref_workDefault_181 : decode (jm_cod M_Ref_workDefault) 181 = .ok (.aload_n 0, 1) := dt_Ref_workDefault 104
theorem d_Ref_workDefault_182 : decode (jm_cod M_Ref_workDefault) 182 = .ok (.getfield 553, 3) := dt_Ref_workDefault 105
theorem d_Ref_workDefault_185 : decode (jm_cod M_Ref_workDefault) 185 = .ok (.lload 6, 2) := dt_Ref_workDefault 106
theorem d_Ref_workDefault_187 : decode (jm_cod M_Ref_workDefault) 187 = .ok (.invokestatic 321, 3) := dt_Ref_workDefault 107
theorem d_Ref_workDefault_190 : decode (jm_cod M_Ref_workDefault) 190 = .ok (.if_icmp .ne 7, 3) := dt_Ref_workDefault 108
theorem d_Ref_workDefault_193 : decode (jm_cod M_Ref_workDefault) 193 = .ok (.iconst 1, 1) := dt_Ref_workDefault 109
theorem d_Ref_workDefault_194 : decode (jm_cod M_Ref_workDefault) 194 = .ok (.goto 4, 3) := dt_Ref_workDefault 110
theorem d_Ref_workDefault_197 : decode (jm_cod M_Ref_workDefault) 197 = .ok (.iconst 0, 1) := dt_Ref_workDefault 111
theorem d_Ref_workDefault_198 : decode (jm_cod M_Ref_workDefault) 198 = .ok (.istore 8, 2) := dt_Ref_workDefault 112
theorem d_Ref_workDefault_200 : decode (jm_cod M_Ref_workDefault) 200 = .ok (.aload_n 0, 1) := dt_Ref_workDefault 113
theorem d_Ref_workDefault_201 : decode (jm_cod M_Ref_workDefault) 201 = .ok (.iload 5, 2) := dt_Ref_workDefault 114
theorem d_Ref_workDefault_203 : decode (jm_cod M_Ref_workDefault) 203 = .ok (.lconst 0, 1) := dt_Ref_workDefault 115
theorem d_Ref_workDefault_204 : decode (jm_cod M_Ref_workDefault) 204 = .ok (.lload 6, 2) := dt_Ref_workDefault 116
theorem d_Ref_workDefault_206 : decode (jm_cod M_Ref_workDefault) 206 = .ok (.invokestatic 396, 3) := dt_Ref_workDefault 117
theorem d_Ref_workDefault_209 : decode (jm_cod M_Ref_workDefault) 209 = .ok (.sipush 192, 3) := dt_Ref_workDefault 118
theorem d_Ref_workDefault_212 : decode (jm_cod M_Ref_workDefault) 212 = .ok (.iadd, 1) := dt_Ref_workDefault 119
theorem d_Ref_workDefault_213 : decode (jm_cod M_Ref_workDefault) 213 = .ok (.iload 8, 2) := dt_Ref_workDefault 120
theorem d_Ref_workDefault_215 : decode (jm_cod M_Ref_workDefault) 215 = .ok (.ifCond .eq 9, 3) := dt_Ref_workDefault 121
theorem d_Ref_workDefault_218 : decode (jm_cod M_Ref_workDefault) 218 = .ok (.sipush 256, 3) := dt_Ref_workDefault 122
theorem d_Ref_workDefault_221 : decode (jm_cod M_Ref_workDefault) 221 = .ok (.goto 4, 3) := dt_Ref_workDefault 123
theorem d_Ref_workDefault_224 : decode (jm_cod M_Ref_workDefault) 224 = .ok (.iconst 0, 1) := dt_Ref_workDefault 124
theorem d_Ref_workDefault_225 : decode (jm_cod M_Ref_workDefault) 225 = .ok (.iadd, 1) := dt_Ref_workDefault 125
theorem d_Ref_workDefault_226 : decode (jm_cod M_Ref_workDefault) 226 = .ok (.aload_n 0, 1) := dt_Ref_workDefault 126
theorem d_Ref_workDefault_227 : decode (jm_cod M_Ref_workDefault) 227 = .ok (.getfield 348, 3) := dt_Ref_workDefault 127
theorem d_Ref_workDefault_230 : decode (jm_cod M_Ref_workDefault) 230 = .ok (.invokevirtual 469, 3) := dt_Ref_workDefault 128
theorem d_Ref_workDefault_233 : decode (jm_cod M_Ref_workDefault) 233 = .ok (.iload 8, 2) := dt_Ref_workDefault 129
theorem d_Ref_workDefault_235 : decode (jm_cod M_Ref_workDefault) 235 = .ok (.ifCond .eq 14, 3) := dt_Ref_workDefault 130
theorem d_Ref_workDefault_238 : decode (jm_cod M_Ref_workDefault) 238 = .ok (.aload_n 0, 1) := dt_Ref_workDefault 131
theorem d_Ref_workDefault_239 : decode (jm_cod M_Ref_workDefault) 239 = .ok (.iconst 0, 1) := dt_Ref_workDefault 132
theorem d_Ref_workDefault_240 : decode (jm_cod M_Ref_workDefault) 240 = .ok (.putfield 553, 3) := dt_Ref_workDefault 133
theorem d_Ref_workDefault_243 : decode (jm_cod M_Ref_workDefault) 243 = .ok (.aload_n 0, 1) := dt_Ref_workDefault 134
theorem d_Ref_workDefault_244 : decode (jm_cod M_Ref_workDefault) 244 = .ok (.iload 4, 2) := dt_Ref_workDefault 135
theorem d_Ref_workDefault_246 : decode (jm_cod M_Ref_workDefault) 246 = .ok (.invokevirtual 473, 3) := dt_Ref_workDefault 136
theorem d_Ref_workDefault_249 : decode (jm_cod M_Ref_workDefault) 249 = .ok (.return_, 1) := dt_Ref_workDefault 137
def tab_Ref_moveAnswer : List (Nat × Instr × Nat) := [(0, .aload_n 0, 1), (1, .iconst 0, 1), (2, .iload_n 1, 1), (3, .iconst 2, 1), (4, .invokevirtual 388, 3), (7, .istore_n 2, 1), (8, .aload_n 0, 1), (9, .getfield 294, 3), (12, .iconst 1, 1), (13, .iadd, 1), (14, .istore_n 3, 1), (15, .iconst (-1), 1), (16, .istore 4, 2), (18, .iconst 1, 1), (19, .istore 5, 2), (21, .iload 5, 2), (23, .iload_n 3, 1), (24, .if_icmp .gt 47, 3), (27, .iload 4, 2), (29, .iconst (-1), 1), (30, .if_icmp .ne 41, 3), (33, .aload_n 0, 1), (34, .getfield 145, 3), (37, .iload_n 1, 1), (38, .iaload, 1), (39, .iload 5, 2), (41, .iadd, 1), (42, .iload_n 3, 1), (43, .irem, 1), (44, .istore 6, 2), (46, .aload_n 0, 1), (47, .iload 6, 2), (49, .iconst 2, 1), (50, .iload_n 1, 1), (51, .invokevirtual 556, 3), (54, .ifCond .eq 8, 3), (57, .iload 6, 2), (59, .goto 4, 3), (62, .iconst (-1), 1), (63, .istore 4, 2), (65, .iinc 5 1, 3), (68, .goto (-47), 3), (71, .iload 4, 2), (73, .iconst (-1), 1), (74, .if_icmp .eq 11, 3), (77, .aload_n 0, 1), (78, .iload_n 2, 1), (79, .invokevirtual 392, 3), (82, .ifCond .ne 4, 3), (85, .return_, 1), (86, .aload_n 0, 1), (87, .iconst 1, 1), (88, .iload 4, 2), (90, .iconst 2, 1), (91, .invokevirtual 388, 3), (94, .istore 5, 2), (96, .aload_n 0, 1), (97, .getfield 109, 3), (100, .iconst 4, 1), (101, .iload 5, 2), (103, .imul, 1), (104, .iaload, 1), (105, .bipush 16, 2), (107, .iload_n 1, 1), (108, .imul, 1), (109, .isub, 1), (110, .istore 6, 2), (112, .aload_n 0, 1), (113, .iload 5, 2), (115, .invokevirtual 473, 3), (118, .aload_n 0, 1), (119, .iload_n 2, 1), (120, .lconst 0, 1), (121, .iload 6, 2), (123, .aload_n 0, 1), (124, .getfield 348, 3), (127, .invokevirtual 469, 3), (130, .aload_n 0, 1), (131, .getfield 145, 3), (134, .iload_n 1, 1), (135, .iload 4, 2), (137, .iastore, 1), (138, .iconst 0, 1), (139, .istore 7, 2), (141, .aload_n 0, 1), (142, .getfield 118, 3), (145, .iload 7, 2), (147, .iaload, 1), (148, .iload_n 1, 1), (149, .if_icmp .ne 18, 3), (152, .aload_n 0, 1), (153, .getfield 121, 3), (156, .iload 7, 2), (158, .iaload, 1), (159, .iload 6, 2), (161, .bipush 15, 2), (163, .iand, 1), (164, .if_icmp .eq 9, 3), (167, .iinc 7 1, 3), (170, .goto (-29), 3), (173, .aload_n 0, 1), (174, .dup, 1), (175, .getfield 526, 3), (178, .iconst 1, 1), (179, .isub, 1), (180, .putfield 526, 3), (183, .iload 7, 2), (185, .istore 8, 2), (187, .iload 8, 2), (189, .aload_n 0, 1), (190, .getfield 526, 3), (193, .if_icmp .ge 73, 3), (196, .aload_n 0, 1), (197, .getfield 118, 3), (200, .iload 8, 2), (202, .aload_n 0, 1), (203, .getfield 118, 3), (206, .iload 8, 2), (208, .iconst 1, 1), (209, .iadd, 1), (210, .iaload, 1), (211, .iastore, 1), (212, .aload_n 0, 1), (213, .getfield 121, 3), (216, .iload 8, 2), (218, .aload_n 0, 1), (219, .getfield 121, 3), (222, .iload 8, 2), (224, .iconst 1, 1), (225, .iadd, 1), (226, .iaload, 1), (227, .iastore, 1), (228, .aload_n 0, 1), (229, .getfield 124, 3), (232, .iload 8, 2), (234, .aload_n 0, 1), (235, .getfield 124, 3), (238, .iload 8, 2), (240, .iconst 1, 1), (241, .iadd, 1), (242, .iaload, 1), (243, .iastore, 1), (244, .aload_n 0, 1), (245, .getfield 127, 3), (248, .iload 8, 2), (250, .aload_n 0, 1), (251, .getfield 127, 3), (254, .iload 8, 2), (256, .iconst 1, 1), (257, .iadd, 1), (258, .iaload, 1), (259, .iastore, 1), (260, .iinc 8 1, 3), (263, .goto (-76), 3), (266, .return_, 1)]
theorem dt_Ref_moveAnswer (i : Nat) : decode (jm_cod M_Ref_moveAnswer) (tab_Ref_moveAnswer.getD i (0, .aload_n 0, 1)).1 = .ok ((tab_Ref_moveAnswer.getD i (0, .aload_n 0, 1)).2.1, (tab_Ref_moveAnswer.getD i (0, .aload_n 0, 1)).2.2) := j_tab (by decide +kernel) i
theorem d_Ref_moveAnswer_0 : decode (jm_cod M_Ref_moveAnswer) 0 = .ok (.aload_n 0, 1) := dt_Ref_moveAnswer 0
theorem d_Ref_moveAnswer_1 : decode (jm_cod M_Ref_moveAnswer) 1 = .ok (.iconst 0, 1) := dt_Ref_moveAnswer 1
theorem d_Ref_moveAnswer_2 : decode (jm_cod M_Ref_moveAnswer) 2 = .ok (.iload_n 1, 1) := dt_Ref_moveAnswer 2
theorem d_Ref_moveAnswer_3 : decode (jm_cod M_Ref_moveAnswer) 3 = .ok (.iconst 2, 1) := dt_Ref_moveAnswer 3
theorem d_Ref_moveAnswer_4 : decode (jm_cod M_Ref_moveAnswer) 4 = .ok (.invokevirtual 388, 3) := dt_Ref_moveAnswer 4
theorem d_Ref_moveAnswer_7 : decode (jm_cod M_Ref_moveAnswer) 7 = .ok (.istore_n 2, 1) := dt_Ref_moveAnswer 5
theorem d_Ref_moveAnswer_8 : decode (jm_cod M_Ref_moveAnswer) 8 = .ok (.aload_n 0, 1) := dt_Ref_moveAnswer 6
theorem d_Ref_moveAnswer_9 : decode (jm_cod M_Ref_moveAnswer) 9 = .ok (.getfield 294, 3) := dt_Ref_moveAnswer 7
theorem d_Ref_moveAnswer_12 : decode (jm_cod M_Ref_moveAnswer) 12 = .ok (.iconst 1, 1) := dt_Ref_moveAnswer 8
theorem d_Ref_moveAnswer_13 : decode (jm_cod M_Ref_moveAnswer) 13 = .ok (.iadd, 1) := dt_Ref_moveAnswer 9
theorem d_Ref_moveAnswer_14 : decode (jm_cod M_Ref_moveAnswer) 14 = .ok (.istore_n 3, 1) := dt_Ref_moveAnswer 10
theorem d_Ref_moveAnswer_15 : decode (jm_cod M_Ref_moveAnswer) 15 = .ok (.iconst (-1), 1) := dt_Ref_moveAnswer 11
theorem d_Ref_moveAnswer_16 : decode (jm_cod M_Ref_moveAnswer) 16 = .ok (.istore 4, 2) := dt_Ref_moveAnswer 12
theorem d_Ref_moveAnswer_18 : decode (jm_cod M_Ref_moveAnswer) 18 = .ok (.iconst 1, 1) := dt_Ref_moveAnswer 13
theorem d_Ref_moveAnswer_19 : decode (jm_cod M_Ref_moveAnswer) 19 = .ok (.istore 5, 2) := dt_Ref_moveAnswer 14
theorem d_Ref_moveAnswer_21 : decode (jm_cod M_Ref_moveAnswer) 21 = .ok (.iload 5, 2) := dt_Ref_moveAnswer 15
theorem d_Ref_moveAnswer_23 : decode (jm_cod M_Ref_moveAnswer) 23 = .ok (.iload_n 3, 1) := dt_Ref_moveAnswer 16
theorem d_Ref_moveAnswer_24 : decode (jm_cod M_Ref_moveAnswer) 24 = .ok (.if_icmp .gt 47, 3) := dt_Ref_moveAnswer 17
theorem d_Ref_moveAnswer_27 : decode (jm_cod M_Ref_moveAnswer) 27 = .ok (.iload 4, 2) := dt_Ref_moveAnswer 18
theorem d_Ref_moveAnswer_29 : decode (jm_cod M_Ref_moveAnswer) 29 = .ok (.iconst (-1), 1) := dt_Ref_moveAnswer 19
theorem d_Ref_moveAnswer_30 : decode (jm_cod M_Ref_moveAnswer) 30 = .ok (.if_icmp .ne 41, 3) := dt_Ref_moveAnswer 20
theorem d_Ref_moveAnswer_33 : decode (jm_cod M_Ref_moveAnswer) 33 = .ok (.aload_n 0, 1) := dt_Ref_moveAnswer 21
theorem d_Ref_moveAnswer_34 : decode (jm_cod M_Ref_moveAnswer) 34 = .ok (.getfield 145, 3) := dt_Ref_moveAnswer 22
theorem d_Ref_moveAnswer_37 : decode (jm_cod M_Ref_moveAnswer) 37 = .ok (.iload_n 1, 1) := dt_Ref_moveAnswer 23
theorem d_Ref_moveAnswer_38 : decode (jm_cod M_Ref_moveAnswer) 38 = .ok (.iaload, 1) := dt_Ref_moveAnswer 24
theorem d_Ref_moveAnswer_39 : decode (jm_cod M_Ref_moveAnswer) 39 = .ok (.iload 5, 2) := dt_Ref_moveAnswer 25
theorem d_Ref_moveAnswer_41 : decode (jm_cod M_Ref_moveAnswer) 41 = .ok (.iadd, 1) := dt_Ref_moveAnswer 26
theorem d_Ref_moveAnswer_42 : decode (jm_cod M_Ref_moveAnswer) 42 = .ok (.iload_n 3, 1) := dt_Ref_moveAnswer 27
theorem d_Ref_moveAnswer_43 : decode (jm_cod M_Ref_moveAnswer) 43 = .ok (.irem, 1) := dt_Ref_moveAnswer 28
theorem d_Ref_moveAnswer_44 : decode (jm_cod M_Ref_moveAnswer) 44 = .ok (.istore 6, 2) := dt_Ref_moveAnswer 29
theorem d_Ref_moveAnswer_46 : decode (jm_cod M_Ref_moveAnswer) 46 = .ok (.aload_n 0, 1) := dt_Ref_moveAnswer 30
theorem d_Ref_moveAnswer_47 : decode (jm_cod M_Ref_moveAnswer) 47 = .ok (.iload 6, 2) := dt_Ref_moveAnswer 31
theorem d_Ref_moveAnswer_49 : decode (jm_cod M_Ref_moveAnswer) 49 = .ok (.iconst 2, 1) := dt_Ref_moveAnswer 32
theorem d_Ref_moveAnswer_50 : decode (jm_cod M_Ref_moveAnswer) 50 = .ok (.iload_n 1, 1) := dt_Ref_moveAnswer 33
theorem d_Ref_moveAnswer_51 : decode (jm_cod M_Ref_moveAnswer) 51 = .ok (.invokevirtual 556, 3) := dt_Ref_moveAnswer 34
theorem d_Ref_moveAnswer_54 : decode (jm_cod M_Ref_moveAnswer) 54 = .ok (.ifCond .eq 8, 3) := dt_Ref_moveAnswer 35
theorem d_Ref_moveAnswer_57 : decode (jm_cod M_Ref_moveAnswer) 57 = .ok (.iload 6, 2) := dt_Ref_moveAnswer 36
theorem d_Ref_moveAnswer_59 : decode (jm_cod M_Ref_moveAnswer) 59 = .ok (.goto 4, 3) := dt_Ref_moveAnswer 37
theorem d_Ref_moveAnswer_62 : decode (jm_cod M_Ref_moveAnswer) 62 = .ok (.iconst (-1), 1) := dt_Ref_moveAnswer 38
theorem d_Ref_moveAnswer_63 : decode (jm_cod M_Ref_moveAnswer) 63 = .ok (.istore 4, 2) := dt_Ref_moveAnswer 39
theorem d_Ref_moveAnswer_65 : decode (jm_cod M_Ref_moveAnswer) 65 = .ok (.iinc 5 1, 3) := dt_Ref_moveAnswer 40
theorem d_Ref_moveAnswer_68 : decode (jm_cod M_Ref_moveAnswer) 68 = .ok (.goto (-47), 3) := dt_Ref_moveAnswer 41
theorem d_Ref_moveAnswer_71 : decode (jm_cod M_Ref_moveAnswer) 71 = .ok (.iload 4, 2) := dt_Ref_moveAnswer 42
theorem d_Ref_moveAnswer_73 : decode (jm_cod M_Ref_moveAnswer) 73 = .ok (.iconst (-1), 1) := dt_Ref_moveAnswer 43
theorem d_Ref_moveAnswer_74 : decode (jm_cod M_Ref_moveAnswer) 74 = .ok (.if_icmp .eq 11, 3) := dt_Ref_moveAnswer 44
theorem d_Ref_moveAnswer_77 : decode (jm_cod M_Ref_moveAnswer) 77 = .ok (.aload_n 0, 1) := dt_Ref_moveAnswer 45
theorem d_Ref_moveAnswer_78 : decode (jm_cod M_Ref_moveAnswer) 78 = .ok (.iload_n 2, 1) := dt_Ref_moveAnswer 46
theorem d_Ref_moveAnswer_79 : decode (jm_cod M_Ref_moveAnswer) 79 = .ok (.invokevirtual 392, 3) := dt_Ref_moveAnswer 47
theorem d_Ref_moveAnswer_82 : decode (jm_cod M_Ref_moveAnswer) 82 = .ok (.ifCond .ne 4, 3) := dt_Ref_moveAnswer 48
theorem d_Ref_moveAnswer_85 : decode (jm_cod M_Ref_moveAnswer) 85 = .ok (.return_, 1) := dt_Ref_moveAnswer 49
theorem d_Ref_moveAnswer_86 : decode (jm_cod M_Ref_moveAnswer) 86 = .ok (.aload_n 0, 1) := dt_Ref_moveAnswer 50
theorem d_Ref_moveAnswer_87 : decode (jm_cod M_Ref_moveAnswer) 87 = .ok (.iconst 1, 1) := dt_Ref_moveAnswer 51
theorem d_Ref_moveAnswer_88 : decode (jm_cod M_Ref_moveAnswer) 88 = .ok (.iload 4, 2) := dt_Ref_moveAnswer 52
theorem d_Ref_moveAnswer_90 : decode (jm_cod M_Ref_moveAnswer) 90 = .ok (.iconst 2, 1) := dt_Ref_moveAnswer 53
theorem d_Ref_moveAnswer_91 : decode (jm_cod M_Ref_moveAnswer) 91 = .ok (.invokevirtual 388, 3) := dt_Ref_moveAnswer 54
theorem d_Ref_moveAnswer_94 : decode (jm_cod M_Ref_moveAnswer) 94 = .ok (.istore 5, 2) := dt_Ref_moveAnswer 55
theorem d_Ref_moveAnswer_96 : decode (jm_cod M_Ref_moveAnswer) 96 = .ok (.aload_n 0, 1) := dt_Ref_moveAnswer 56
theorem d_Ref_moveAnswer_97 : decode (jm_cod M_Ref_moveAnswer) 97 = .ok (.getfield 109, 3) := dt_Ref_moveAnswer 57
theorem d_Ref_moveAnswer_100 : decode (jm_cod M_Ref_moveAnswer) 100 = .ok (.iconst 4, 1) := dt_Ref_moveAnswer 58
theorem d_Ref_moveAnswer_101 : decode (jm_cod M_Ref_moveAnswer) 101 = .ok (.iload 5, 2) := dt_Ref_moveAnswer 59
theorem d_Ref_moveAnswer_103 : decode (jm_cod M_Ref_moveAnswer) 103 = .ok (.imul, 1) := dt_Ref_moveAnswer 60
theorem d_Ref_moveAnswer_104 : decode (jm_cod M_Ref_moveAnswer) 104 = .ok (.iaload, 1) := dt_Ref_moveAnswer 61
theorem d_Ref_moveAnswer_105 : decode (jm_cod M_Ref_moveAnswer) 105 = .ok (.bipush 16, 2) := dt_Ref_moveAnswer 62
theorem d_Ref_moveAnswer_107 : decode (jm_cod M_Ref_moveAnswer) 107 = .ok (.iload_n 1, 1) := dt_Ref_moveAnswer 63
theorem d_Ref_moveAnswer_108 : decode (jm_cod M_Ref_moveAnswer) 108 = .ok (.imul, 1) := dt_Ref_moveAnswer 64
theorem d_Ref_moveAnswer_109 : decode (jm_cod M_Ref_moveAnswer) 109 = .ok (.isub, 1) := dt_Ref_moveAnswer 65
theorem d_Ref_moveAnswer_110 : decode (jm_cod M_Ref_moveAnswer) 110 = .ok (.istore 6, 2) := dt_Ref_moveAnswer 66
theorem d_Ref_moveAnswer_112 : decode (jm_cod M_Ref_moveAnswer) 112 = .ok (.aload_n 0, 1) := dt_Ref_moveAnswer 67
theorem d_Ref_moveAnswer_113 : decode (jm_cod M_Ref_moveAnswer) 113 = .ok (.iload 5, 2) := dt_Ref_moveAnswer 68
theorem d_Ref_moveAnswer_115 : decode (jm_cod M_Ref_moveAnswer) 115 = .ok (.invokevirtual 473, 3) := dt_Ref_moveAnswer 69
theorem d_Ref_moveAnswer_118 : decode (jm_cod M_Ref_moveAnswer) 118 = .ok (.aload_n 0, 1) := dt_Ref_moveAnswer 70
theorem d_Ref_moveAnswer_119 : decode (jm_cod M_Ref_moveAnswer) 119 = .ok (.iload_n 2, 1) := dt_Ref_moveAnswer 71
theorem d_Ref_moveAnswer_120 : decode (jm_cod M_Ref_moveAnswer) 120 = .ok (.lconst 0, 1) := dt_Ref_moveAnswer 72
theorem d_Ref_moveAnswer_121 : decode (jm_cod M_Ref_moveAnswer) 121 = .ok (.iload 6, 2) := dt_Ref_moveAnswer 73
theorem d_Ref_moveAnswer_123 : decode (jm_cod M_Ref_moveAnswer) 123 = .ok (.aload_n 0, 1) := dt_Ref_moveAnswer 74
theorem d_Ref_moveAnswer_124 : decode (jm_cod M_Ref_moveAnswer) 124 = .ok (.getfield 348, 3) := dt_Ref_moveAnswer 75
theorem d_Ref_moveAnswer_127 : decode (jm_cod M_Ref_moveAnswer) 127 = .ok (.invokevirtual 469, 3) := dt_Ref_moveAnswer 76
theorem d_Ref_moveAnswer_130 : decode (jm_cod M_Ref_moveAnswer) 130 = .ok (.aload_n 0, 1) := dt_Ref_moveAnswer 77
theorem d_Ref_moveAnswer_131 : decode (jm_cod M_Ref_moveAnswer) 131 = .ok (.getfield 145, 3) := dt_Ref_moveAnswer 78
theorem d_Ref_moveAnswer_134 : decode (jm_cod M_Ref_moveAnswer) 134 = .ok (.iload_n 1, 1) := dt_Ref_moveAnswer 79
theorem d_Ref_moveAnswer_135 : decode (jm_cod M_Ref_moveAnswer) 135 = .ok (.iload 4, 2) := dt_Ref_moveAnswer 80
theorem d_Ref_moveAnswer_137 : decode (jm_cod M_Ref_moveAnswer) 137 = .ok (.iastore, 1) := dt_Ref_moveAnswer 81
theorem d_Ref_moveAnswer_138 : decode (jm_cod M_Ref_moveAnswer) 138 = .ok (.iconst 0, 1) := dt_Ref_moveAnswer 82
theorem d_Ref_moveAnswer_139 : decode (jm_cod M_Ref_moveAnswer) 139 = .ok (.istore 7, 2) := dt_Ref_moveAnswer 83
theorem d_Ref_moveAnswer_141 : decode (jm_cod M_Ref_moveAnswer) 141 = .ok (.aload_n 0, 1) := dt_Ref_moveAnswer 84
theorem d_Ref_moveAnswer_142 : decode (jm_cod M_Ref_moveAnswer) 142 = .ok (.getfield 118, 3) := dt_Ref_moveAnswer 85
theorem d_Ref_moveAnswer_145 : decode (jm_cod M_Ref_moveAnswer) 145 = .ok (.iload 7, 2) := dt_Ref_moveAnswer 86
theorem d_Ref_moveAnswer_147 : decode (jm_cod M_Ref_moveAnswer) 147 = .ok (.iaload, 1) := dt_Ref_moveAnswer 87
theorem d_Ref_moveAnswer_148 : decode (jm_cod M_Ref_moveAnswer) 148 = .ok (.iload_n 1, 1) := dt_Ref_moveAnswer 88
theorem d_Ref_moveAnswer_149 : decode (jm_cod M_Ref_moveAnswer) 149 = .ok (.if_icmp .ne 18, 3) := dt_Ref_moveAnswer 89
theorem d_Ref_moveAnswer_152 : decode (jm_cod M_Ref_moveAnswer) 152 = .ok (.aload_n 0, 1) := dt_Ref_moveAnswer 90
theorem d_Ref_moveAnswer_153 : decode (jm_cod M_Ref_moveAnswer) 153 = .ok (.getfield 121, 3) := dt_Ref_moveAnswer 91
theorem d_Ref_moveAnswer_156 : decode (jm_cod M_Ref_moveAnswer) 156 = .ok (.iload 7, 2) := dt_Ref_moveAnswer 92
theorem d_Ref_moveAnswer_158 : decode (jm_cod M_Ref_moveAnswer) 158 = .ok (.iaload, 1) := dt_Ref_moveAnswer 93
theorem d_Ref_moveAnswer_159 : decode (jm_cod M_Ref_moveAnswer) 159 = .ok (.iload 6, 2) := dt_Ref_moveAnswer 94
theorem d_Ref_moveAnswer_161 : decode (jm_cod M_Ref_moveAnswer) 161 = .ok (.bipush 15, 2) := dt_Ref_moveAnswer 95
theorem d_Ref_moveAnswer_163 : decode (jm_cod M_Ref_moveAnswer) 163 = .ok (.iand, 1) := dt_Ref_moveAnswer 96
theorem d_Ref_moveAnswer_164 : decode (jm_cod M_Ref_moveAnswer) 164 = .ok (.if_icmp .eq 9, 3) := dt_Ref_moveAnswer 97
theorem d_Ref_moveAnswer_167 : decode (jm_cod M_Ref_moveAnswer) 167 = .ok (.iinc 7 1, 3) := dt_Ref_moveAnswer 98
theorem d_Ref_moveAnswer_170 : decode (jm_cod M_Ref_moveAnswer) 170 = .ok (.goto (-29), 3) := dt_Ref_moveAnswer 99
theorem d_Ref_moveAnswer_173 : decode (jm_cod M_Ref_moveAnswer) 173 = .ok (.aload_n 0, 1) := dt_Ref_moveAnswer 100
theorem d_Ref_moveAnswer_174 : decode (jm_cod M_Ref_moveAnswer) 174 = .ok (.dup, 1) := dt_Ref_moveAnswer 101
theorem d_Ref_moveAnswer_175 : decode (jm_cod M_Ref_moveAnswer) 175 = .ok (.getfield 526, 3) := dt_Ref_moveAnswer 102
theorem d_Ref_moveAnswer_178 : decode (jm_cod M_Ref_moveAnswer) 178 = .ok (.iconst 1, 1) := dt_Ref_moveAnswer 103
theorem d_Ref_moveAnswer_179 : decode (jm_cod M_Ref_moveAnswer) 179 = .ok (.isub, 1) := dt_Ref_moveAnswer 104
theorem d_Ref_moveAnswer_180 : decode (jm_cod M_Ref_moveAnswer) 180 = .ok (.putfield 526, 3) := dt_Ref_moveAnswer 105
theorem d_Ref_moveAnswer_183 : decode (jm_cod M_Ref_moveAnswer) 183 = .ok (.iload 7, 2) := dt_Ref_moveAnswer 106
theorem d_Ref_moveAnswer_185 : decode (jm_cod M_Ref_moveAnswer) 185 = .ok (.istore 8, 2) := dt_Ref_moveAnswer 107
theorem d_Ref_moveAnswer_187 : decode (jm_cod M_Ref_moveAnswer) 187 = .ok (.iload 8, 2) := dt_Ref_moveAnswer 108
theorem d_Ref_moveAnswer_189 : decode (jm_cod M_Ref_moveAnswer) 189 = .ok (.aload_n 0, 1) := dt_Ref_moveAnswer 109
theorem d_Ref_moveAnswer_190 : decode (jm_cod M_Ref_moveAnswer) 190 = .ok (.getfield 526, 3) := dt_Ref_moveAnswer 110
theorem d_Ref_moveAnswer_193 : decode (jm_cod M_Ref_moveAnswer) 193 = .ok (.if_icmp .ge 73, 3) := dt_Ref_moveAnswer 111
theorem d_Ref_moveAnswer_196 : decode (jm_cod M_Ref_moveAnswer) 196 = .ok (.aload_n 0, 1) := dt_Ref_moveAnswer 112
theorem d_Ref_moveAnswer_197 : decode (jm_cod M_Ref_moveAnswer) 197 = .ok (.getfield 118, 3) := dt_Ref_moveAnswer 113
theorem d_Ref_moveAnswer_200 : decode (jm_cod M_Ref_moveAnswer) 200 = .ok (.iload 8, 2) := dt_Ref_moveAnswer 114
theorem d_Ref_moveAnswer_202 : decode (jm_cod M_Ref_moveAnswer) 202 = .ok (.aload_n 0, 1) := dt_Ref_moveAnswer 115
theorem d_Ref_moveAnswer_203 : decode (jm_cod M_Ref_moveAnswer) 203 = .ok (.getfield 118, 3) := dt_Ref_moveAnswer 116
theorem d_Ref_moveAnswer_206 : decode (jm_cod M_Ref_moveAnswer) 206 = .ok (.iload 8, 2) := dt_Ref_moveAnswer 117
theorem d_Ref_moveAnswer_208 : decode (jm_cod M_Ref_moveAnswer) 208 = .ok (.iconst 1, 1) := dt_Ref_moveAnswer 118
theorem d_Ref_moveAnswer_209 : decode (jm_cod M_Ref_moveAnswer) 209 = .ok (.iadd, 1) := dt_Ref_moveAnswer 119
theorem d_Ref_moveAnswer_210 : decode (jm_cod M_Ref_moveAnswer) 210 = .ok (.iaload, 1) := dt_Ref_moveAnswer 120
theorem d_Ref_moveAnswer_211 : decode (jm_cod M_Ref_moveAnswer) 211 = .ok (.iastore, 1) := dt_Ref_moveAnswer 121
theorem d_Ref_moveAnswer_212 : decode (jm_cod M_Ref_moveAnswer) 212 = .ok (.aload_n 0, 1) := dt_Ref_moveAnswer 122
theorem d_Ref_moveAnswer_213 : decode (jm_cod M_Ref_moveAnswer) 213 = .ok (.getfield 121, 3) := dt_Ref_moveAnswer 123
theorem d_Ref_moveAnswer_216 : decode (jm_cod M_Ref_moveAnswer) 216 = .ok (.iload 8, 2) := dt_Ref_moveAnswer 124
theorem d_Ref_moveAnswer_218 : decode (jm_cod M_Ref_moveAnswer) 218 = .ok (.aload_n 0, 1) := dt_Ref_moveAnswer 125
theorem d_Ref_moveAnswer_219 : decode (jm_cod M_Ref_moveAnswer) 219 = .ok (.getfield 121, 3) := dt_Ref_moveAnswer 126
theorem d_Ref_moveAnswer_222 : decode (jm_cod M_Ref_moveAnswer) 222 = .ok (.iload 8, 2) := dt_Ref_moveAnswer 127
theorem d_Ref_moveAnswer_224 : decode (jm_cod M_Ref_moveAnswer) 224 = .ok (.iconst 1, 1) := dt_Ref_moveAnswer 128
theorem d_Ref_moveAnswer_225 : decode (jm_cod M_Ref_moveAnswer) 225 = .ok (.iadd, 1) := dt_Ref_moveAnswer 129
theorem d_Ref_moveAnswer_226 : decode (jm_cod M_Ref_moveAnswer) 226 = .ok (.iaload, 1) := dt_Ref_moveAnswer 130
theorem d_Ref_moveAnswer_227 : decode (jm_cod M_Ref_moveAnswer) 227 = .ok (.iastore, 1) := dt_Ref_moveAnswer 131
theorem d_Ref_moveAnswer_228 : decode (jm_cod M_Ref_moveAnswer) 228 = .ok (.aload_n 0, 1) := dt_Ref_moveAnswer 132
theorem d_Ref_moveAnswer_229 : decode (jm_cod M_Ref_moveAnswer) 229 = .ok (.getfield 124, 3) := dt_Ref_moveAnswer 133
theorem d_Ref_moveAnswer_232 : decode (jm_cod M_Ref_moveAnswer) 232 = .ok (.iload 8, 2) := dt_Ref_moveAnswer 134
theorem d_Ref_moveAnswer_234 : decode (jm_cod M_Ref_moveAnswer) 234 = .ok (.aload_n 0, 1) := dt_Ref_moveAnswer 135
theorem d_Ref_moveAnswer_235 : decode (jm_cod M_Ref_moveAnswer) 235 = .ok (.getfield 124, 3) := dt_Ref_moveAnswer 136
theorem d_Ref_moveAnswer_238 : decode (jm_cod M_Ref_moveAnswer) 238 = .ok (.iload 8, 2) := dt_Ref_moveAnswer 137
theorem d_Ref_moveAnswer_240 : decode (jm_cod M_Ref_moveAnswer) 240 = .ok (.iconst 1, 1) := dt_Ref_moveAnswer 138
theorem d_Ref_moveAnswer_241 : decode (jm_cod M_Ref_moveAnswer) 241 = .ok (.iadd, 1) := dt_Ref_moveAnswer 139
theorem d_Ref_moveAnswer_242 : decode (jm_cod M_Ref_moveAnswer) 242 = .ok (.iaload, 1) := dt_Ref_moveAnswer 140
theorem d_Ref_moveAnswer_243 : decode (jm_cod M_Ref_moveAnswer) 243 = .ok (.iastore, 1) := dt_Ref_moveAnswer 141
theorem d_Ref_moveAnswer_244 : decode (jm_cod M_Ref_moveAnswer) 244 = .ok (.aload_n 0, 1) := dt_Ref_moveAnswer 142
theorem d_Ref_moveAnswer_245 : decode (jm_cod M_Ref_moveAnswer) 245 = .ok (.getfield 127, 3) := dt_Ref_moveAnswer 143
theorem d_Ref_moveAnswer_248 : decode (jm_cod M_Ref_moveAnswer) 248 = .ok (.iload 8, 2) := dt_Ref_moveAnswer 144
theorem d_Ref_moveAnswer_250 : decode (jm_cod M_Ref_moveAnswer) 250 = .ok (.aload_n 0, 1) := dt_Ref_moveAnswer 145
theorem d_Ref_moveAnswer_251 : decode (jm_cod M_Ref_moveAnswer) 251 = .ok (.getfield 127, 3) := dt_Ref_moveAnswer 146
theorem d_Ref_moveAnswer_254 : decode (jm_cod M_Ref_moveAnswer) 254 = .ok (.iload 8, 2) := dt_Ref_moveAnswer 147
theorem d_Ref_moveAnswer_256 : decode (jm_cod M_Ref_moveAnswer) 256 = .ok (.iconst 1, 1) := dt_Ref_moveAnswer 148
theorem d_Ref_moveAnswer_257 : decode (jm_cod M_Ref_moveAnswer) 257 = .ok (.iadd, 1) := dt_Ref_moveAnswer 149
theorem d_Ref_moveAnswer_258 : decode (jm_cod M_Ref_moveAnswer) 258 = .ok (.iaload, 1) := dt_Ref_moveAnswer 150
theorem d_Ref_moveAnswer_259 : decode (jm_cod M_Ref_moveAnswer) 259 = .ok (.iastore, 1) := dt_Ref_moveAnswer 151
theorem d_Ref_moveAnswer_260 : decode (jm_cod M_Ref_moveAnswer) 260 = .ok (.iinc 8 1, 3) := dt_Ref_moveAnswer 152
theorem d_Ref_moveAnswer_263 : decode (jm_cod M_Ref_moveAnswer) 263 = .ok (.goto (-76), 3) := dt_Ref_moveAnswer 153
theorem d_Ref_moveAnswer_266 : decode (jm_cod M_Ref_moveAnswer) 266 = .ok (.return_, 1) := dt_Ref_moveAnswer 154
def tab_Ref_isFor : List (Nat × Instr × Nat) := [(0, .aload_n 0, 1), (1, .iconst 1, 1), (2, .iload_n 1, 1), (3, .iload_n 2, 1), (4, .invokevirtual 388, 3), (7, .istore 4, 2), (9, .aload_n 0, 1), (10, .getfield 115, 3), (13, .iload 4, 2), (15, .iaload, 1), (16, .ifCond .le 26, 3), (19, .aload_n 0, 1), (20, .getfield 109, 3), (23, .iconst 4, 1), (24, .iload 4, 2), (26, .imul, 1), (27, .iaload, 1), (28, .bipush 63, 2), (30, .iand, 1), (31, .bipush 16, 2), (33, .idiv, 1), (34, .iload_n 3, 1), (35, .if_icmp .ne 7, 3), (38, .iconst 1, 1), (39, .goto 4, 3), (42, .iconst 0, 1), (43, .ireturn, 1)]
theorem dt_Ref_isFor (i : Nat) : decode (jm_cod M_Ref_isFor) (tab_Ref_isFor.getD i (0, .aload_n 0, 1)).1 = .ok ((tab_Ref_isFor.getD i (0, .aload_n 0, 1)).2.1, (tab_Ref_isFor.getD i (0, .aload_n 0, 1)).2.2) := j_tab (by decide +kernel) i
theorem d_Ref_isFor_0 : decode (jm_cod M_Ref_isFor) 0 = .ok (.aload_n 0, 1) := dt_Ref_isFor 0
theorem d_Ref_isFor_1 : decode (jm_cod M_Ref_isFor) 1 = .ok (.iconst 1, 1) := dt_Ref_isFor 1
theorem d_Ref_isFor_2 : decode (jm_cod M_Ref_isFor) 2 = .ok (.iload_n 1, 1) := dt_Ref_isFor 2
theorem d_Ref_isFor_3 : decode (jm_cod M_Ref_isFor) 3 = .ok (.iload_n 2, 1) := dt_Ref_isFor 3
theorem d_Ref_isFor_4 : decode (jm_cod M_Ref_isFor) 4 = .ok (.invokevirtual 388, 3) := dt_Ref_isFor 4
theorem d_Ref_isFor_7 : decode (jm_cod M_Ref_isFor) 7 = .ok (.istore 4, 2) := dt_Ref_isFor 5
theorem d_Ref_isFor_9 : decode (jm_cod M_Ref_isFor) 9 = .ok (.aload_n 0, 1) := dt_Ref_isFor 6
theorem d_Ref_isFor_10 : decode (jm_cod M_Ref_isFor) 10 = .ok (.getfield 115, 3) := dt_Ref_isFor 7
theorem d_Ref_isFor_13 : decode (jm_cod M_Ref_isFor) 13 = .ok (.iload 4, 2) := dt_Ref_isFor 8
theorem d_Ref_isFor_15 : decode (jm_cod M_Ref_isFor) 15 = .ok (.iaload, 1) := dt_Ref_isFor 9
theorem d_Ref_isFor_16 : decode (jm_cod M_Ref_isFor) 16 = .ok (.ifCond .le 26, 3) := dt_Ref_isFor 10
theorem d_Ref_isFor_19 : decode (jm_cod M_Ref_isFor) 19 = .ok (.aload_n 0, 1) := dt_Ref_isFor 11
theorem d_Ref_isFor_20 : decode (jm_cod M_Ref_isFor) 20 = .ok (.getfield 109, 3) := dt_Ref_isFor 12
theorem d_Ref_isFor_23 : decode (jm_cod M_Ref_isFor) 23 = .ok (.iconst 4, 1) := dt_Ref_isFor 13
theorem d_Ref_isFor_24 : decode (jm_cod M_Ref_isFor) 24 = .ok (.iload 4, 2) := dt_Ref_isFor 14
theorem d_Ref_isFor_26 : decode (jm_cod M_Ref_isFor) 26 = .ok (.imul, 1) := dt_Ref_isFor 15
theorem d_Ref_isFor_27 : decode (jm_cod M_Ref_isFor) 27 = .ok (.iaload, 1) := dt_Ref_isFor 16
theorem d_Ref_isFor_28 : decode (jm_cod M_Ref_isFor) 28 = .ok (.bipush 63, 2) := dt_Ref_isFor 17
theorem d_Ref_isFor_30 : decode (jm_cod M_Ref_isFor) 30 = .ok (.iand, 1) := dt_Ref_isFor 18
theorem d_Ref_isFor_31 : decode (jm_cod M_Ref_isFor) 31 = .ok (.bipush 16, 2) := dt_Ref_isFor 19
theorem d_Ref_isFor_33 : decode (jm_cod M_Ref_isFor) 33 = .ok (.idiv, 1) := dt_Ref_isFor 20
theorem d_Ref_isFor_34 : decode (jm_cod M_Ref_isFor) 34 = .ok (.iload_n 3, 1) := dt_Ref_isFor 21
theorem d_Ref_isFor_35 : decode (jm_cod M_Ref_isFor) 35 = .ok (.if_icmp .ne 7, 3) := dt_Ref_isFor 22
theorem d_Ref_isFor_38 : decode (jm_cod M_Ref_isFor) 38 = .ok (.iconst 1, 1) := dt_Ref_isFor 23
theorem d_Ref_isFor_39 : decode (jm_cod M_Ref_isFor) 39 = .ok (.goto 4, 3) := dt_Ref_isFor 24
theorem d_Ref_isFor_42 : decode (jm_cod M_Ref_isFor) 42 = .ok (.iconst 0, 1) := dt_Ref_isFor 25
theorem d_Ref_isFor_43 : decode (jm_cod M_Ref_isFor) 43 = .ok (.ireturn, 1) := dt_Ref_isFor 26
def tab_Ref_moveBeat : List (Nat × Instr × Nat) := [(0, .aload_n 0, 1), (1, .iconst 0, 1), (2, .iload_n 1, 1), (3, .iconst 4, 1), (4, .invokevirtual 388, 3), (7, .istore_n 2, 1), (8, .aload_n 0, 1), (9, .getfield 294, 3), (12, .iconst 1, 1), (13, .iadd, 1), (14, .istore_n 3, 1), (15, .iconst (-1), 1), (16, .istore 4, 2), (18, .iconst 1, 1), (19, .istore 5, 2), (21, .iload 5, 2), (23, .iload_n 3, 1), (24, .if_icmp .gt 47, 3), (27, .iload 4, 2), (29, .iconst (-1), 1), (30, .if_icmp .ne 41, 3), (33, .aload_n 0, 1), (34, .getfield 148, 3), (37, .iload_n 1, 1), (38, .iaload, 1), (39, .iload 5, 2), (41, .iadd, 1), (42, .iload_n 3, 1), (43, .irem, 1), (44, .istore 6, 2), (46, .aload_n 0, 1), (47, .iload 6, 2), (49, .iconst 4, 1), (50, .iload_n 1, 1), (51, .invokevirtual 556, 3), (54, .ifCond .eq 8, 3), (57, .iload 6, 2), (59, .goto 4, 3), (62, .iconst (-1), 1), (63, .istore 4, 2), (65, .iinc 5 1, 3), (68, .goto (-47), 3), (71, .aload_n 0, 1), (72, .getfield 559, 3), (75, .ifCond .eq 39, 3), (78, .aload_n 0, 1), (79, .getfield 151, 3), (82, .iload_n 1, 1), (83, .baload, 1), (84, .ifCond .eq 30, 3), (87, .aload_n 0, 1), (88, .aload_n 0, 1), (89, .getfield 148, 3), (92, .iload_n 1, 1), (93, .iaload, 1), (94, .iconst 4, 1), (95, .iload_n 1, 1), (96, .invokevirtual 556, 3), (99, .ifCond .eq 12, 3), (102, .aload_n 0, 1), (103, .getfield 148, 3), (106, .iload_n 1, 1), (107, .iaload, 1), (108, .goto 4, 3), (111, .iconst (-1), 1), (112, .istore 4, 2), (114, .iload 4, 2), (116, .iconst (-1), 1), (117, .if_icmp .eq 11, 3), (120, .aload_n 0, 1), (121, .iload_n 2, 1), (122, .invokevirtual 392, 3), (125, .ifCond .ne 4, 3), (128, .return_, 1), (129, .aload_n 0, 1), (130, .iconst 1, 1), (131, .iload 4, 2), (133, .iconst 4, 1), (134, .invokevirtual 388, 3), (137, .istore 5, 2), (139, .aload_n 0, 1), (140, .getfield 109, 3), (143, .iconst 4, 1), (144, .iload 5, 2), (146, .imul, 1), (147, .iaload, 1), (148, .bipush 16, 2), (150, .iload_n 1, 1), (151, .imul, 1), (152, .isub, 1), (153, .istore 6, 2), (155, .aload_n 0, 1), (156, .iload_n 2, 1), (157, .aload_n 0, 1), (158, .getfield 106, 3), (161, .iconst 4, 1), (162, .iload 5, 2), (164, .imul, 1), (165, .laload, 1), (166, .iload 6, 2), (168, .aload_n 0, 1), (169, .getfield 348, 3), (172, .invokevirtual 469, 3), (175, .aload_n 0, 1), (176, .iload 5, 2), (178, .invokevirtual 473, 3), (181, .aload_n 0, 1), (182, .getfield 148, 3), (185, .iload_n 1, 1), (186, .iload 4, 2), (188, .iastore, 1), (189, .aload_n 0, 1), (190, .getfield 151, 3), (193, .iload_n 1, 1), (194, .iload 6, 2), (196, .sipush 256, 3), (199, .iand, 1), (200, .ifCond .ne 7, 3), (203, .iconst 1, 1), (204, .goto 4, 3), (207, .iconst 0, 1), (208, .bastore, 1), (209, .aload_n 0, 1), (210, .getfield 151, 3), (213, .iload_n 1, 1), (214, .baload, 1), (215, .ifCond .eq 4, 3), (218, .return_, 1), (219, .iconst 0, 1), (220, .istore 7, 2), (222, .aload_n 0, 1), (223, .getfield 130, 3), (226, .iload 7, 2), (228, .iaload, 1), (229, .iload_n 1, 1), (230, .if_icmp .ne 18, 3), (233, .aload_n 0, 1), (234, .getfield 133, 3), (237, .iload 7, 2), (239, .iaload, 1), (240, .iload 6, 2), (242, .bipush 15, 2), (244, .iand, 1), (245, .if_icmp .eq 9, 3), (248, .iinc 7 1, 3), (251, .goto (-29), 3), (254, .aload_n 0, 1), (255, .dup, 1), (256, .getfield 529, 3), (259, .iconst 1, 1), (260, .isub, 1), (261, .putfield 529, 3), (264, .iload 7, 2), (266, .istore 8, 2), (268, .iload 8, 2), (270, .aload_n 0, 1), (271, .getfield 529, 3), (274, .if_icmp .ge 57, 3), (277, .aload_n 0, 1), (278, .getfield 130, 3), (281, .iload 8, 2), (283, .aload_n 0, 1), (284, .getfield 130, 3), (287, .iload 8, 2), (289, .iconst 1, 1), (290, .iadd, 1), (291, .iaload, 1), (292, .iastore, 1), (293, .aload_n 0, 1), (294, .getfield 133, 3), (297, .iload 8, 2), (299, .aload_n 0, 1), (300, .getfield 133, 3), (303, .iload 8, 2), (305, .iconst 1, 1), (306, .iadd, 1), (307, .iaload, 1), (308, .iastore, 1), (309, .aload_n 0, 1), (310, .getfield 136, 3), (313, .iload 8, 2), (315, .aload_n 0, 1), (316, .getfield 136, 3), (319, .iload 8, 2), (321, .iconst 1, 1), (322, .iadd, 1), (323, .iaload, 1), (324, .iastore, 1), (325, .iinc 8 1, 3), (328, .goto (-60), 3), (331, .return_, 1)]
theorem dt_Ref_moveBeat (i : Nat) : decode (jm_cod M_Ref_moveBeat) (tab_Ref_moveBeat.getD i (0, .aload_n 0, 1)).1 = .ok ((tab_Ref_moveBeat.getD i (0, .aload_n 0, 1)).2.1, (tab_Ref_moveBeat.getD i (0, .aload_n 0, 1)).2.2) := j_tab (by decide +kernel) i
theorem d_Ref_moveBeat_0 : decode (jm_cod M_Ref_moveBeat) 0 = .ok (.aload_n 0, 1) := dt_Ref_moveBeat 0
theorem d_Ref_moveBeat_1 : decode (jm_cod M_Ref_moveBeat) 1 = .ok (.iconst 0, 1) := dt_Ref_moveBeat 1
theorem d_Ref_moveBeat_2 : decode (jm_cod M_Ref_moveBeat) 2 = .ok (.iload_n 1, 1) := dt_Ref_moveBeat 2
theorem d_Ref_moveBeat_3 : decode (jm_cod M_Ref_moveBeat) 3 = .ok (.iconst 4, 1) := dt_Ref_moveBeat 3
theorem d_Ref_moveBeat_4 : decode (jm_cod M_Ref_moveBeat) 4 = .ok (.invokevirtual 388, 3) := dt_Ref_moveBeat 4
theorem d_Ref_moveBeat_7 : decode (jm_cod M_Ref_moveBeat) 7 = .ok (.istore_n 2, 1) := dt_Ref_moveBeat 5
theorem d_Ref_moveBeat_8 : decode (jm_cod M_Ref_moveBeat) 8 = .ok (.aload_n 0, 1) := dt_Ref_moveBeat 6
theorem d_Ref_moveBeat_9 : decode (jm_cod M_Ref_moveBeat) 9 = .ok (.getfield 294, 3) := dt_Ref_moveBeat 7
theorem d_Ref_moveBeat_12 : decode (jm_cod M_Ref_moveBeat) 12 = .ok (.iconst 1, 1) := dt_Ref_moveBeat 8
theorem d_Ref_moveBeat_13 : decode (jm_cod M_Ref_moveBeat) 13 = .ok (.iadd, 1) := dt_Ref_moveBeat 9
theorem d_Ref_moveBeat_14 : decode (jm_cod M_Ref_moveBeat) 14 = .ok (.istore_n 3, 1) := dt_Ref_moveBeat 10
theorem d_Ref_moveBeat_15 : decode (jm_cod M_Ref_moveBeat) 15 = .ok (.iconst (-1), 1) := dt_Ref_moveBeat 11
theorem d_Ref_moveBeat_16 : decode (jm_cod M_Ref_moveBeat) 16 = .ok (.istore 4, 2) := dt_Ref_moveBeat 12
theorem d_Ref_moveBeat_18 : decode (jm_cod M_Ref_moveBeat) 18 = .ok (.iconst 1, 1) := dt_Ref_moveBeat 13
theorem d_Ref_moveBeat_19 : decode (jm_cod M_Ref_moveBeat) 19 = .ok (.istore 5, 2) := dt_Ref_moveBeat 14
theorem d_Ref_moveBeat_21 : decode (jm_cod M_Ref_moveBeat) 21 = .ok (.iload 5, 2) := dt_Ref_moveBeat 15
theorem d_Ref_moveBeat_23 : decode (jm_cod M_Ref_moveBeat) 23 = .ok (.iload_n 3, 1) := dt_Ref_moveBeat 16
theorem d_Ref_moveBeat_24 : decode (jm_cod M_Ref_moveBeat) 24 = .ok (.if_icmp .gt 47, 3) := dt_Ref_moveBeat 17
theorem d_Ref_moveBeat_27 : decode (jm_cod M_Ref_moveBeat) 27 = .ok (.iload 4, 2) := dt_Ref_moveBeat 18
theorem d_Ref_moveBeat_29 : decode (jm_cod M_Ref_moveBeat) 29 = .ok (.iconst (-1), 1) := dt_Ref_moveBeat 19
theorem d_Ref_moveBeat_30 : decode (jm_cod M_Ref_moveBeat) 30 = .ok (.if_icmp .ne 41, 3) := dt_Ref_moveBeat 20
theorem d_Ref_moveBeat_33 : decode (jm_cod M_Ref_moveBeat) 33 = .ok (.aload_n 0, 1) := dt_Ref_moveBeat 21
theorem d_Ref_moveBeat_34 : decode (jm_cod M_Ref_moveBeat) 34 = .ok (.getfield 148, 3) := dt_Ref_moveBeat 22
theorem d_Ref_moveBeat_37 : decode (jm_cod M_Ref_moveBeat) 37 = .ok (.iload_n 1, 1) := dt_Ref_moveBeat 23
theorem d_Ref_moveBeat_38 : decode (jm_cod M_Ref_moveBeat) 38 = .ok (.iaload, 1) := dt_Ref_moveBeat 24
theorem d_Ref_moveBeat_39 : decode (jm_cod M_Ref_moveBeat) 39 = .ok (.iload 5, 2) := dt_Ref_moveBeat 25
theorem d_Ref_moveBeat_41 : decode (jm_cod M_Ref_moveBeat) 41 = .ok (.iadd, 1) := dt_Ref_moveBeat 26
theorem d_Ref_moveBeat_42 : decode (jm_cod M_Ref_moveBeat) 42 = .ok (.iload_n 3, 1) := dt_Ref_moveBeat 27
theorem d_Ref_moveBeat_43 : decode (jm_cod M_Ref_moveBeat) 43 = .ok (.irem, 1) := dt_Ref_moveBeat 28
theorem d_Ref_moveBeat_44 : decode (jm_cod M_Ref_moveBeat) 44 = .ok (.istore 6, 2) := dt_Ref_moveBeat 29
theorem d_Ref_moveBeat_46 : decode (jm_cod M_Ref_moveBeat) 46 = .ok (.aload_n 0, 1) := dt_Ref_moveBeat 30
theorem d_Ref_moveBeat_47 : decode (jm_cod M_Ref_moveBeat) 47 = .ok (.iload 6, 2) := dt_Ref_moveBeat 31
theorem d_Ref_moveBeat_49 : decode (jm_cod M_Ref_moveBeat) 49 = .ok (.iconst 4, 1) := dt_Ref_moveBeat 32
theorem d_Ref_moveBeat_50 : decode (jm_cod M_Ref_moveBeat) 50 = .ok (.iload_n 1, 1) := dt_Ref_moveBeat 33
theorem d_Ref_moveBeat_51 : decode (jm_cod M_Ref_moveBeat) 51 = .ok (.invokevirtual 556, 3) := dt_Ref_moveBeat 34
theorem d_Ref_moveBeat_54 : decode (jm_cod M_Ref_moveBeat) 54 = .ok (.ifCond .eq 8, 3) := dt_Ref_moveBeat 35
theorem d_Ref_moveBeat_57 : decode (jm_cod M_Ref_moveBeat) 57 = .ok (.iload 6, 2) := dt_Ref_moveBeat 36
theorem d_Ref_moveBeat_59 : decode (jm_cod M_Ref_moveBeat) 59 = .ok (.goto 4, 3) := dt_Ref_moveBeat 37
theorem d_Ref_moveBeat_62 : decode (jm_cod M_Ref_moveBeat) 62 = .ok (.iconst (-1), 1) := dt_Ref_moveBeat 38
theorem d_Ref_moveBeat_63 : decode (jm_cod M_Ref_moveBeat) 63 = .ok (.istore 4, 2) := dt_Ref_moveBeat 39
theorem d_Ref_moveBeat_65 : decode (jm_cod M_Ref_moveBeat) 65 = .ok (.iinc 5 1, 3) := dt_Ref_moveBeat 40
theorem d_Ref_moveBeat_68 : decode (jm_cod M_Ref_moveBeat) 68 = .ok (.goto (-47), 3) := dt_Ref_moveBeat 41
theorem d_Ref_moveBeat_71 : decode (jm_cod M_Ref_moveBeat) 71 = .ok (.aload_n 0, 1) := dt_Ref_moveBeat 42
theorem d_Ref_moveBeat_72 : decode (jm_cod M_Ref_moveBeat) 72 = .ok (.getfield 559, 3) := dt_Ref_moveBeat 43
theorem d_Ref_moveBeat_75 : decode (jm_cod M_Ref_moveBeat) 75 = .ok (.ifCond .eq 39, 3) := dt_Ref_moveBeat 44
theorem d_Ref_moveBeat_78 : decode (jm_cod M_Ref_moveBeat) 78 = .ok (.aload_n 0, 1) := dt_Ref_moveBeat 45
theorem d_Ref_moveBeat_79 : decode (jm_cod M_Ref_moveBeat) 79 = .ok (.getfield 151, 3) := dt_Ref_moveBeat 46
theorem d_Ref_moveBeat_82 : decode (jm_cod M_Ref_moveBeat) 82 = .ok (.iload_n 1, 1) := dt_Ref_moveBeat 47
theorem d_Ref_moveBeat_83 : decode (jm_cod M_Ref_moveBeat) 83 = .ok (.baload, 1) := dt_Ref_moveBeat 48
theorem d_Ref_moveBeat_84 : decode (jm_cod M_Ref_moveBeat) 84 = .ok (.ifCond .eq 30, 3) := dt_Ref_moveBeat 49
theorem d_Ref_moveBeat_87 : decode (jm_cod M_Ref_moveBeat) 87 = .ok (.aload_n 0, 1) := dt_Ref_moveBeat 50
theorem d_Ref_moveBeat_88 : decode (jm_cod M_Ref_moveBeat) 88 = .ok (.aload_n 0, 1) := dt_Ref_moveBeat 51
theorem d_Ref_moveBeat_89 : decode (jm_cod M_Ref_moveBeat) 89 = .ok (.getfield 148, 3) := dt_Ref_moveBeat 52
theorem d_Ref_moveBeat_92 : decode (jm_cod M_Ref_moveBeat) 92 = .ok (.iload_n 1, 1) := dt_Ref_moveBeat 53
theorem d_Ref_moveBeat_93 : decode (jm_cod M_Ref_moveBeat) 93 = .ok (.iaload, 1) := dt_Ref_moveBeat 54
theorem d_Ref_moveBeat_94 : decode (jm_cod M_Ref_moveBeat) 94 = .ok (.iconst 4, 1) := dt_Ref_moveBeat 55
theorem d_Ref_moveBeat_95 : decode (jm_cod M_Ref_moveBeat) 95 = .ok (.iload_n 1, 1) := dt_Ref_moveBeat 56
theorem d_Ref_moveBeat_96 : decode (jm_cod M_Ref_moveBeat) 96 = .ok (.invokevirtual 556, 3) := dt_Ref_moveBeat 57
theorem d_Ref_moveBeat_99 : decode (jm_cod M_Ref_moveBeat) 99 = .ok (.ifCond .eq 12, 3) := dt_Ref_moveBeat 58
theorem d_Ref_moveBeat_102 : decode (jm_cod M_Ref_moveBeat) 102 = .ok (.aload_n 0, 1) := dt_Ref_moveBeat 59
theorem d_Ref_moveBeat_103 : decode (jm_cod M_Ref_moveBeat) 103 = .ok (.getfield 148, 3) := dt_Ref_moveBeat 60
theorem d_Ref_moveBeat_106 : decode (jm_cod M_Ref_moveBeat) 106 = .ok (.iload_n 1, 1) := dt_Ref_moveBeat 61
theorem d_Ref_moveBeat_107 : decode (jm_cod M_Ref_moveBeat) 107 = .ok (.iaload, 1) := dt_Ref_moveBeat 62
theorem d_Ref_moveBeat_108 : decode (jm_cod M_Ref_moveBeat) 108 = .ok (.goto 4, 3) := dt_Ref_moveBeat 63
theorem d_Ref_moveBeat_111 : decode (jm_cod M_Ref_moveBeat) 111 = .ok (.iconst (-1), 1) := dt_Ref_moveBeat 64
theorem d_Ref_moveBeat_112 : decode (jm_cod M_Ref_moveBeat) 112 = .ok (.istore 4, 2) := dt_Ref_moveBeat 65
theorem d_Ref_moveBeat_114 : decode (jm_cod M_Ref_moveBeat) 114 = .ok (.iload 4, 2) := dt_Ref_moveBeat 66
theorem d_Ref_moveBeat_116 : decode (jm_cod M_Ref_moveBeat) 116 = .ok (.iconst (-1), 1) := dt_Ref_moveBeat 67
theorem d_Ref_moveBeat_117 : decode (jm_cod M_Ref_moveBeat) 117 = .ok (.if_icmp .eq 11, 3) := dt_Ref_moveBeat 68
theorem d_Ref_moveBeat_120 : decode (jm_cod M_Ref_moveBeat) 120 = .ok (.aload_n 0, 1) := dt_Ref_moveBeat 69
theorem d_Ref_moveBeat_121 : decode (jm_cod M_Ref_moveBeat) 121 = .ok (.iload_n 2, 1) := dt_Ref_moveBeat 70
theorem d_Ref_moveBeat_122 : decode (jm_cod M_Ref_moveBeat) 122 = .ok (.invokevirtual 392, 3) := dt_Ref_moveBeat 71
theorem d_Ref_moveBeat_125 : decode (jm_cod M_Ref_moveBeat) 125 = .ok (.ifCond .ne 4, 3) := dt_Ref_moveBeat 72
theorem d_Ref_moveBeat_128 : decode (jm_cod M_Ref_moveBeat) 128 = .ok (.return_, 1) := dt_Ref_moveBeat 73
theorem d_Ref_moveBeat_129 : decode (jm_cod M_Ref_moveBeat) 129 = .ok (.aload_n 0, 1) := dt_Ref_moveBeat 74
theorem d_Ref_moveBeat_130 : decode (jm_cod M_Ref_moveBeat) 130 = .ok (.iconst 1, 1) := dt_Ref_moveBeat 75
theorem d_Ref_moveBeat_131 : decode (jm_cod M_Ref_moveBeat) 131 = .ok (.iload 4, 2) := dt_Ref_moveBeat 76
theorem d_Ref_moveBeat_133 : decode (jm_cod M_Ref_moveBeat) 133 = .ok (.iconst 4, 1) := dt_Ref_moveBeat 77
theorem d_Ref_moveBeat_134 : decode (jm_cod M_Ref_moveBeat) 134 = .ok (.invokevirtual 388, 3) := dt_Ref_moveBeat 78
theorem d_Ref_moveBeat_137 : decode (jm_cod M_Ref_moveBeat) 137 = .ok (.istore 5, 2) := dt_Ref_moveBeat 79
theorem d_Ref_moveBeat_139 : decode (jm_cod M_Ref_moveBeat) 139 = .ok (.aload_n 0, 1) := dt_Ref_moveBeat 80
theorem d_Ref_moveBeat_140 : decode (jm_cod M_Ref_moveBeat) 140 = .ok (.getfield 109, 3) := dt_Ref_moveBeat 81
theorem d_Ref_moveBeat_143 : decode (jm_cod M_Ref_moveBeat) 143 = .ok (.iconst 4, 1) := dt_Ref_moveBeat 82
theorem d_Ref_moveBeat_144 : decode (jm_cod M_Ref_moveBeat) 144 = .ok (.iload 5, 2) := dt_Ref_moveBeat 83
theorem d_Ref_moveBeat_146 : decode (jm_cod M_Ref_moveBeat) 146 = .ok (.imul, 1) := dt_Ref_moveBeat 84
theorem d_Ref_moveBeat_147 : decode (jm_cod M_Ref_moveBeat) 147 = .ok (.iaload, 1) := dt_Ref_moveBeat 85
theorem d_Ref_moveBeat_148 : decode (jm_cod M_Ref_moveBeat) 148 = .ok (.bipush 16, 2) := dt_Ref_moveBeat 86
theorem d_Ref_moveBeat_150 : decode (jm_cod M_Ref_moveBeat) 150 = .ok (.iload_n 1, 1) := dt_Ref_moveBeat 87
theorem d_Ref_moveBeat_151 : decode (jm_cod M_Ref_moveBeat) 151 = .ok (.imul, 1) := dt_Ref_moveBeat 88
theorem d_Ref_moveBeat_152 : decode (jm_cod M_Ref_moveBeat) 152 = .ok (.isub, 1) := dt_Ref_moveBeat 89
theorem d_Ref_moveBeat_153 : decode (jm_cod M_Ref_moveBeat) 153 = .ok (.istore 6, 2) := dt_Ref_moveBeat 90
theorem d_Ref_moveBeat_155 : decode (jm_cod M_Ref_moveBeat) 155 = .ok (.aload_n 0, 1) := dt_Ref_moveBeat 91
theorem d_Ref_moveBeat_156 : decode (jm_cod M_Ref_moveBeat) 156 = .ok (.iload_n 2, 1) := dt_Ref_moveBeat 92
theorem d_Ref_moveBeat_157 : decode (jm_cod M_Ref_moveBeat) 157 = .ok (.aload_n 0, 1) := dt_Ref_moveBeat 93
theorem d_Ref_moveBeat_158 : decode (jm_cod M_Ref_moveBeat) 158 = .ok (.getfield 106, 3) := dt_Ref_moveBeat 94
theorem d_Ref_moveBeat_161 : decode (jm_cod M_Ref_moveBeat) 161 = .ok (.iconst 4, 1) := dt_Ref_moveBeat 95
theorem d_Ref_moveBeat_162 : decode (jm_cod M_Ref_moveBeat) 162 = .ok (.iload 5, 2) := dt_Ref_moveBeat 96
theorem d_Ref_moveBeat_164 : decode (jm_cod M_Ref_moveBeat) 164 = .ok (.imul, 1) := dt_Ref_moveBeat 97
theorem d_Ref_moveBeat_165 : decode (jm_cod M_Ref_moveBeat) 165 = .ok (.laload, 1) := dt_Ref_moveBeat 98
theorem d_Ref_moveBeat_166 : decode (jm_cod M_Ref_moveBeat) 166 = .ok (.iload 6, 2) := dt_Ref_moveBeat 99
theorem d_Ref_moveBeat_168 : decode (jm_cod M_Ref_moveBeat) 168 = .ok (.aload_n 0, 1) := dt_Ref_moveBeat 100
theorem d_Ref_moveBeat_169 : decode (jm_cod M_Ref_moveBeat) 169 = .ok (.getfield 348, 3) := dt_Ref_moveBeat 101
theorem d_Ref_moveBeat_172 : decode (jm_cod M_Ref_moveBeat) 172 = .ok (.invokevirtual 469, 3) := dt_Ref_moveBeat 102
theorem d_Ref_moveBeat_175 : decode (jm_cod M_Ref_moveBeat) 175 = .ok (.aload_n 0, 1) := dt_Ref_moveBeat 103
theorem d_Ref_moveBeat_176 : decode (jm_cod M_Ref_moveBeat) 176 = .ok (.iload 5, 2) := dt_Ref_moveBeat 104
theorem d_Ref_moveBeat_178 : decode (jm_cod M_Ref_moveBeat) 178 = .ok (.invokevirtual 473, 3) := dt_Ref_moveBeat 105
theorem d_Ref_moveBeat_181 : decode (jm_cod M_Ref_moveBeat) 181 = .ok (.aload_n 0, 1) := dt_Ref_moveBeat 106
theorem d_Ref_moveBeat_182 : decode (jm_cod M_Ref_moveBeat) 182 = .ok (.getfield 148, 3) := dt_Ref_moveBeat 107
theorem d_Ref_moveBeat_185 : decode (jm_cod M_Ref_moveBeat) 185 = .ok (.iload_n 1, 1) := dt_Ref_moveBeat 108
theorem d_Ref_moveBeat_186 : decode (jm_cod M_Ref_moveBeat) 186 = .ok (.iload 4, 2) := dt_Ref_moveBeat 109
theorem d_Ref_moveBeat_188 : decode (jm_cod M_Ref_moveBeat) 188 = .ok (.iastore, 1) := dt_Ref_moveBeat 110
theorem d_Ref_moveBeat_189 : decode (jm_cod M_Ref_moveBeat) 189 = .ok (.aload_n 0, 1) := dt_Ref_moveBeat 111
theorem d_Ref_moveBeat_190 : decode (jm_cod M_Ref_moveBeat) 190 = .ok (.getfield 151, 3) := dt_Ref_moveBeat 112
theorem d_Ref_moveBeat_193 : decode (jm_cod M_Ref_moveBeat) 193 = .ok (.iload_n 1, 1) := dt_Ref_moveBeat 113
theorem d_Ref_moveBeat_194 : decode (jm_cod M_Ref_moveBeat) 194 = .ok (.iload 6, 2) := dt_Ref_moveBeat 114
theorem d_Ref_moveBeat_196 : decode (jm_cod M_Ref_moveBeat) 196 = .ok (.sipush 256, 3) := dt_Ref_moveBeat 115
theorem d_Ref_moveBeat_199 : decode (jm_cod M_Ref_moveBeat) 199 = .ok (.iand, 1) := dt_Ref_moveBeat 116
theorem d_Ref_moveBeat_200 : decode (jm_cod M_Ref_moveBeat) 200 = .ok (.ifCond .ne 7, 3) := dt_Ref_moveBeat 117
theorem d_Ref_moveBeat_203 : decode (jm_cod M_Ref_moveBeat) 203 = .ok (.iconst 1, 1) := dt_Ref_moveBeat 118
theorem d_Ref_moveBeat_204 : decode (jm_cod M_Ref_moveBeat) 204 = .ok (.goto 4, 3) := dt_Ref_moveBeat 119
theorem d_Ref_moveBeat_207 : decode (jm_cod M_Ref_moveBeat) 207 = .ok (.iconst 0, 1) := dt_Ref_moveBeat 120
theorem d_Ref_moveBeat_208 : decode (jm_cod M_Ref_moveBeat) 208 = .ok (.bastore, 1) := dt_Ref_moveBeat 121
theorem d_Ref_moveBeat_209 : decode (jm_cod M_Ref_moveBeat) 209 = .ok (.aload_n 0, 1) := dt_Ref_moveBeat 122
theorem d_Ref_moveBeat_210 : decode (jm_cod M_Ref_moveBeat) 210 = .ok (.getfield 151, 3) := dt_Ref_moveBeat 123
theorem d_Ref_moveBeat_213 : decode (jm_cod M_Ref_moveBeat) 213 = .ok (.iload_n 1, 1) := dt_Ref_moveBeat 124
theorem d_Ref_moveBeat_214 : decode (jm_cod M_Ref_moveBeat) 214 = .ok (.baload, 1) := dt_Ref_moveBeat 125
theorem d_Ref_moveBeat_215 : decode (jm_cod M_Ref_moveBeat) 215 = .ok (.ifCond .eq 4, 3) := dt_Ref_moveBeat 126
theorem d_Ref_moveBeat_218 : decode (jm_cod M_Ref_moveBeat) 218 = .ok (.return_, 1) := dt_Ref_moveBeat 127
theorem d_Ref_moveBeat_219 : decode (jm_cod M_Ref_moveBeat) 219 = .ok (.iconst 0, 1) := dt_Ref_moveBeat 128
theorem d_Ref_moveBeat_220 : decode (jm_cod M_Ref_moveBeat) 220 = .ok (.istore 7, 2) := dt_Ref_moveBeat 129
theorem d_Ref_moveBeat_222 : decode (jm_cod M_Ref_moveBeat) 222 = .ok (.aload_n 0, 1) := dt_Ref_moveBeat 130
theorem d_Ref_moveBeat_223 : decode (jm_cod M_Ref_moveBeat) 223 = .ok (.getfield 130, 3) := dt_Ref_moveBeat 131
theorem d_Ref_moveBeat_226 : decode (jm_cod M_Ref_moveBeat) 226 = .ok (.iload 7, 2) := dt_Ref_moveBeat 132
theorem d_Ref_moveBeat_228 : decode (jm_cod M_Ref_moveBeat) 228 = .ok (.iaload, 1) := dt_Ref_moveBeat 133
theorem d_Ref_moveBeat_229 : decode (jm_cod M_Ref_moveBeat) 229 = .ok (.iload_n 1, 1) := dt_Ref_moveBeat 134
theorem d_Ref_moveBeat_230 : decode (jm_cod M_Ref_moveBeat) 230 = .ok (.if_icmp .ne 18, 3) := dt_Ref_moveBeat 135
theorem d_Ref_moveBeat_233 : decode (jm_cod M_Ref_moveBeat) 233 = .ok (.aload_n 0, 1) := dt_Ref_moveBeat 136
theorem d_Ref_moveBeat_234 : decode (jm_cod M_Ref_moveBeat) 234 = .ok (.getfield 133, 3) := dt_Ref_moveBeat 137
theorem d_Ref_moveBeat_237 : decode (jm_cod M_Ref_moveBeat) 237 = .ok (.iload 7, 2) := dt_Ref_moveBeat 138
theorem d_Ref_moveBeat_239 : decode (jm_cod M_Ref_moveBeat) 239 = .ok (.iaload, 1) := dt_Ref_moveBeat 139
theorem d_Ref_moveBeat_240 : decode (jm_cod M_Ref_moveBeat) 240 = .ok (.iload 6, 2) := dt_Ref_moveBeat 140
theorem d_Ref_moveBeat_242 : decode (jm_cod M_Ref_moveBeat) 242 = .ok (.bipush 15, 2) := dt_Ref_moveBeat 141
theorem d_Ref_moveBeat_244 : decode (jm_cod M_Ref_moveBeat) 244 = .ok (.iand, 1) := dt_Ref_moveBeat 142
theorem d_Ref_moveBeat_245 : decode (jm_cod M_Ref_moveBeat) 245 = .ok (.if_icmp .eq 9, 3) := dt_Ref_moveBeat 143
theorem d_Ref_moveBeat_248 : decode (jm_cod M_Ref_moveBeat) 248 = .ok (.iinc 7 1, 3) := dt_Ref_moveBeat 144
theorem d_Ref_moveBeat_251 : decode (jm_cod M_Ref_moveBeat) 251 = .ok (.goto (-29), 3) := dt_Ref_moveBeat 145
theorem d_Ref_moveBeat_254 : decode (jm_cod M_Ref_moveBeat) 254 = .ok (.aload_n 0, 1) := dt_Ref_moveBeat 146
theorem d_Ref_moveBeat_255 : decode (jm_cod M_Ref_moveBeat) 255 = .ok (.dup, 1) := dt_Ref_moveBeat 147
theorem d_Ref_moveBeat_256 : decode (jm_cod M_Ref_moveBeat) 256 = .ok (.getfield 529, 3) := dt_Ref_moveBeat 148
theorem d_Ref_moveBeat_259 : decode (jm_cod M_Ref_moveBeat) 259 = .ok (.iconst 1, 1) := dt_Ref_moveBeat 149
theorem d_Ref_moveBeat_260 : decode (jm_cod M_Ref_moveBeat) 260 = .ok (.isub, 1) := dt_Ref_moveBeat 150
theorem d_Ref_moveBeat_261 : decode (jm_cod M_Ref_moveBeat) 261 = .ok (.putfield 529, 3) := dt_Ref_moveBeat 151
theorem d_Ref_moveBeat_264 : decode (jm_cod M_Ref_moveBeat) 264 = .ok (.iload 7, 2) := dt_Ref_moveBeat 152
theorem d_Ref_moveBeat_266 : decode (jm_cod M_Ref_moveBeat) 266 = .ok (.istore 8, 2) := dt_Ref_moveBeat 153
theorem d_Ref_moveBeat_268 : decode (jm_cod M_Ref_moveBeat) 268 = .ok (.iload 8, 2) := dt_Ref_moveBeat 154
theorem d_Ref_moveBeat_270 : decode (jm_cod M_Ref_moveBeat) 270 = .ok (.aload_n 0, 1) := dt_Ref_moveBeat 155
theorem d_Ref_moveBeat_271 : decode (jm_cod M_Ref_moveBeat) 271 = .ok (.getfield 529, 3) := dt_Ref_moveBeat 156
theorem d_Ref_moveBeat_274 : decode (jm_cod M_Ref_moveBeat) 274 = .ok (.if_icmp .ge 57, 3) := dt_Ref_moveBeat 157
theorem d_Ref_moveBeat_277 : decode (jm_cod M_Ref_moveBeat) 277 = .ok (.aload_n 0, 1) := dt_Ref_moveBeat 158
theorem d_Ref_moveBeat_278 : decode (jm_cod M_Ref_moveBeat) 278 = .ok (.getfield 130, 3) := dt_Ref_moveBeat 159
theorem d_Ref_moveBeat_281 : decode (jm_cod M_Ref_moveBeat) 281 = .ok (.iload 8, 2) := dt_Ref_moveBeat 160
theorem d_Ref_moveBeat_283 : decode (jm_cod M_Ref_moveBeat) 283 = .ok (.aload_n 0, 1) := dt_Ref_moveBeat 161
theorem d_Ref_moveBeat_284 : decode (jm_cod M_Ref_moveBeat) 284 = .ok (.getfield 130, 3) := dt_Ref_moveBeat 162
theorem d_Ref_moveBeat_287 : decode (jm_cod M_Ref_moveBeat) 287 = .ok (.iload 8, 2) := dt_Ref_moveBeat 163
theorem d_Ref_moveBeat_289 : decode (jm_cod M_Ref_moveBeat) 289 = .ok (.iconst 1, 1) := dt_Ref_moveBeat 164
theorem d_Ref_moveBeat_290 : decode (jm_cod M_Ref_moveBeat) 290 = .ok (.iadd, 1) := dt_Ref_moveBeat 165
theorem d_Ref_moveBeat_291 : decode (jm_cod M_Ref_moveBeat) 291 = .ok (.iaload, 1) := dt_Ref_moveBeat 166
theorem d_Ref_moveBeat_292 : decode (jm_cod M_Ref_moveBeat) 292 = .ok (.iastore, 1) := dt_Ref_moveBeat 167
theorem d_Ref_moveBeat_293 : decode (jm_cod M_Ref_moveBeat) 293 = .ok (.aload_n 0, 1) := dt_Ref_moveBeat 168
theorem d_Ref_moveBeat_294 : decode (jm_cod M_Ref_moveBeat) 294 = .ok (.getfield 133, 3) := dt_Ref_moveBeat 169
theorem d_Ref_moveBeat_297 : decode (jm_cod M_Ref_moveBeat) 297 = .ok (.iload 8, 2) := dt_Ref_moveBeat 170
theorem d_Ref_moveBeat_299 : decode (jm_cod M_Ref_moveBeat) 299 = .ok (.aload_n 0, 1) := dt_Ref_moveBeat 171
theorem d_Ref_moveBeat_300 : decode (jm_cod M_Ref_moveBeat) 300 = .ok (.getfield 133, 3) := dt_Ref_moveBeat 172
theorem d_Ref_moveBeat_303 : decode (jm_cod M_Ref_moveBeat) 303 = .ok (.iload 8, 2) := dt_Ref_moveBeat 173
theorem d_Ref_moveBeat_305 : decode (jm_cod M_Ref_moveBeat) 305 = .ok (.iconst 1, 1) := dt_Ref_moveBeat 174
theorem d_Ref_moveBeat_306 : decode (jm_cod M_Ref_moveBeat) 306 = .ok (.iadd, 1) := dt_Ref_moveBeat 175
theorem d_Ref_moveBeat_307 : decode (jm_cod M_Ref_moveBeat) 307 = .ok (.iaload, 1) := dt_Ref_moveBeat 176
theorem d_Ref_moveBeat_308 : decode (jm_cod M_Ref_moveBeat) 308 = .ok (.iastore, 1) := dt_Ref_moveBeat 177
theorem d_Ref_moveBeat_309 : decode (jm_cod M_Ref_moveBeat) 309 = .ok (.aload_n 0, 1) := dt_Ref_moveBeat 178
theorem d_Ref_moveBeat_310 : decode (jm_cod M_Ref_moveBeat) 310 = .ok (.getfield 136, 3) := dt_Ref_moveBeat 179
theorem d_Ref_moveBeat_313 : decode (jm_cod M_Ref_moveBeat) 313 = .ok (.iload 8, 2) := dt_Ref_moveBeat 180
theorem d_Ref_moveBeat_315 : decode (jm_cod M_Ref_moveBeat) 315 = .ok (.aload_n 0, 1) := dt_Ref_moveBeat 181
theorem d_Ref_moveBeat_316 : decode (jm_cod M_Ref_moveBeat) 316 = .ok (.getfield 136, 3) := dt_Ref_moveBeat 182
theorem d_Ref_moveBeat_319 : decode (jm_cod M_Ref_moveBeat) 319 = .ok (.iload 8, 2) := dt_Ref_moveBeat 183
theorem d_Ref_moveBeat_321 : decode (jm_cod M_Ref_moveBeat) 321 = .ok (.iconst 1, 1) := dt_Ref_moveBeat 184
theorem d_Ref_moveBeat_322 : decode (jm_cod M_Ref_moveBeat) 322 = .ok (.iadd, 1) := dt_Ref_moveBeat 185
theorem d_Ref_moveBeat_323 : decode (jm_cod M_Ref_moveBeat) 323 = .ok (.iaload, 1) := dt_Ref_moveBeat 186
theorem d_Ref_moveBeat_324 : decode (jm_cod M_Ref_moveBeat) 324 = .ok (.iastore, 1) := dt_Ref_moveBeat 187
theorem d_Ref_moveBeat_325 : decode (jm_cod M_Ref_moveBeat) 325 = .ok (.iinc 8 1, 3) := dt_Ref_moveBeat 188
theorem d_Ref_moveBeat_328 : decode (jm_cod M_Ref_moveBeat) 328 = .ok (.goto (-60), 3) := dt_Ref_moveBeat 189
theorem d_Ref_moveBeat_331 : decode (jm_cod M_Ref_moveBeat) 331 = .ok (.return_, 1) := dt_Ref_moveBeat 190
def tab_Ref_drain : List (Nat × Instr × Nat) := [(0, .aload_n 0, 1), (1, .iload_n 1, 1), (2, .i2l, 1), (3, .lconst 1, 1), (4, .ldc2_w 621, 3), (7, .invokestatic 599, 3), (10, .ifCond .eq 7, 3), (13, .iconst 0, 1), (14, .goto 4, 3), (17, .iconst 1, 1), (18, .putfield 303, 3), (21, .aload_n 0, 1), (22, .getfield 303, 3), (25, .ifCond .le 5, 3), (28, .iconst 0, 1), (29, .ireturn, 1), (30, .iconst 0, 1), (31, .istore_n 2, 1), (32, .iload_n 2, 1), (33, .iload_n 1, 1), (34, .if_icmp .ge 21, 3), (37, .aload_n 0, 1), (38, .invokevirtual 605, 3), (41, .ifCond .le 14, 3), (44, .aload_n 0, 1), (45, .invokevirtual 618, 3), (48, .pop, 1), (49, .iinc 2 1, 3), (52, .goto (-20), 3), (55, .aload_n 0, 1), (56, .invokevirtual 605, 3), (59, .ifCond .le 7, 3), (62, .iconst (-1), 1), (63, .goto 4, 3), (66, .iload_n 2, 1), (67, .ireturn, 1)]
theorem dt_Ref_drain (i : Nat) : decode (jm_cod M_Ref_drain) (tab_Ref_drain.getD i (0, .aload_n 0, 1)).1 = .ok ((tab_Ref_drain.getD i (0, .aload_n 0, 1)).2.1, (tab_Ref_drain.getD i (0, .aload_n 0, 1)).2.2) := j_tab (by decide +kernel) i
theorem d_Ref_drain_0 : decode (jm_cod M_Ref_drain) 0 = .ok (.aload_n 0, 1) := dt_Ref_drain 0
theorem d_Ref_drain_1 : decode (jm_cod M_Ref_drain) 1 = .ok (.iload_n 1, 1) := dt_Ref_drain 1
theorem d_Ref_drain_2 : decode (jm_cod M_Ref_drain) 2 = .ok (.i2l, 1) := dt_Ref_drain 2
theorem d_Ref_drain_3 : decode (jm_cod M_Ref_drain) 3 = .ok (.lconst 1, 1) := dt_Ref_drain 3
theorem d_Ref_drain_4 : decode (jm_cod M_Ref_drain) 4 = .ok (.ldc2_w 621, 3) := dt_Ref_drain 4
theorem d_Ref_drain_7 : decode (jm_cod M_Ref_drain) 7 = .ok (.invokestatic 599, 3) := dt_Ref_drain 5
theorem d_Ref_drain_10 : decode (jm_cod M_Ref_drain) 10 = .ok (.ifCond .eq 7, 3) := dt_Ref_drain 6
theorem d_Ref_drain_13 : decode (jm_cod M_Ref_drain) 13 = .ok (.iconst 0, 1) := dt_Ref_drain 7
theorem d_Ref_drain_14 : decode (jm_cod M_Ref_drain) 14 = .ok (.goto 4, 3) := dt_Ref_drain 8
theorem d_Ref_drain_17 : decode (jm_cod M_Ref_drain) 17 = .ok (.iconst 1, 1) := dt_Ref_drain 9
theorem d_Ref_drain_18 : decode (jm_cod M_Ref_drain) 18 = .ok (.putfield 303, 3) := dt_Ref_drain 10
theorem d_Ref_drain_21 : decode (jm_cod M_Ref_drain) 21 = .ok (.aload_n 0, 1) := dt_Ref_drain 11
theorem d_Ref_drain_22 : decode (jm_cod M_Ref_drain) 22 = .ok (.getfield 303, 3) := dt_Ref_drain 12
theorem d_Ref_drain_25 : decode (jm_cod M_Ref_drain) 25 = .ok (.ifCond .le 5, 3) := dt_Ref_drain 13
theorem d_Ref_drain_28 : decode (jm_cod M_Ref_drain) 28 = .ok (.iconst 0, 1) := dt_Ref_drain 14
theorem d_Ref_drain_29 : decode (jm_cod M_Ref_drain) 29 = .ok (.ireturn, 1) := dt_Ref_drain 15
theorem d_Ref_drain_30 : decode (jm_cod M_Ref_drain) 30 = .ok (.iconst 0, 1) := dt_Ref_drain 16
theorem d_Ref_drain_31 : decode (jm_cod M_Ref_drain) 31 = .ok (.istore_n 2, 1) := dt_Ref_drain 17
theorem d_Ref_drain_32 : decode (jm_cod M_Ref_drain) 32 = .ok (.iload_n 2, 1) := dt_Ref_drain 18
theorem d_Ref_drain_33 : decode (jm_cod M_Ref_drain) 33 = .ok (.iload_n 1, 1) := dt_Ref_drain 19
theorem d_Ref_drain_34 : decode (jm_cod M_Ref_drain) 34 = .ok (.if_icmp .ge 21, 3) := dt_Ref_drain 20
theorem d_Ref_drain_37 : decode (jm_cod M_Ref_drain) 37 = .ok (.aload_n 0, 1) := dt_Ref_drain 21
theorem d_Ref_drain_38 : decode (jm_cod M_Ref_drain) 38 = .ok (.invokevirtual 605, 3) := dt_Ref_drain 22
theorem d_Ref_drain_41 : decode (jm_cod M_Ref_drain) 41 = .ok (.ifCond .le 14, 3) := dt_Ref_drain 23
theorem d_Ref_drain_44 : decode (jm_cod M_Ref_drain) 44 = .ok (.aload_n 0, 1) := dt_Ref_drain 24
theorem d_Ref_drain_45 : decode (jm_cod M_Ref_drain) 45 = .ok (.invokevirtual 618, 3) := dt_Ref_drain 25
theorem d_Ref_drain_48 : decode (jm_cod M_Ref_drain) 48 = .ok (.pop, 1) := dt_Ref_drain 26
theorem d_Ref_drain_49 : decode (jm_cod M_Ref_drain) 49 = .ok (.iinc 2 1, 3) := dt_Ref_drain 27
theorem d_Ref_drain_52 : decode (jm_cod M_Ref_drain) 52 = .ok (.goto (-20), 3) := dt_Ref_drain 28
theorem d_Ref_drain_55 : decode (jm_cod M_Ref_drain) 55 = .ok (.aload_n 0, 1) := dt_Ref_drain 29
theorem d_Ref_drain_56 : decode (jm_cod M_Ref_drain) 56 = .ok (.invokevirtual 605, 3) := dt_Ref_drain 30
theorem d_Ref_drain_59 : decode (jm_cod M_Ref_drain) 59 = .ok (.ifCond .le 7, 3) := dt_Ref_drain 31
theorem d_Ref_drain_62 : decode (jm_cod M_Ref_drain) 62 = .ok (.iconst (-1), 1) := dt_Ref_drain 32
theorem d_Ref_drain_63 : decode (jm_cod M_Ref_drain) 63 = .ok (.goto 4, 3) := dt_Ref_drain 33
theorem d_Ref_drain_66 : decode (jm_cod M_Ref_drain) 66 = .ok (.iload_n 2, 1) := dt_Ref_drain 34
theorem d_Ref_drain_67 : decode (jm_cod M_Ref_drain) 67 = .ok (.ireturn, 1) := dt_Ref_drain 35
def tab_Ref_ticket : List (Nat × Instr × Nat) := [(0, .aload_n 0, 1), (1, .aload_n 0, 1), (2, .iload_n 1, 1), (3, .invokevirtual 623, 3), (6, .ifCond .ne 7, 3), (9, .iconst 1, 1), (10, .goto 20, 3), (13, .iload_n 2, 1), (14, .i2l, 1), (15, .lconst 0, 1), (16, .ldc2_w 626, 3), (19, .invokestatic 599, 3), (22, .ifCond .ne 7, 3), (25, .iconst 2, 1), (26, .goto 4, 3), (29, .iconst 0, 1), (30, .putfield 303, 3), (33, .aload_n 0, 1), (34, .getfield 303, 3), (37, .ifCond .le 5, 3), (40, .iconst 0, 1), (41, .ireturn, 1), (42, .iload_n 2, 1), (43, .tableswitch 102 0 5 #[37, 67, 74, 81, 88, 95], 37), (80, .aload_n 0, 1), (81, .getfield 76, 3), (84, .iload_n 1, 1), (85, .iaload, 1), (86, .iconst (-1), 1), (87, .if_icmp .eq 7, 3), (90, .iconst 2, 1), (91, .goto 18, 3), (94, .aload_n 0, 1), (95, .getfield 73, 3), (98, .iload_n 1, 1), (99, .iaload, 1), (100, .iconst (-1), 1), (101, .if_icmp .eq 7, 3), (104, .iconst 1, 1), (105, .goto 4, 3), (108, .iconst 0, 1), (109, .ireturn, 1), (110, .aload_n 0, 1), (111, .getfield 82, 3), (114, .iload_n 1, 1), (115, .iaload, 1), (116, .ireturn, 1), (117, .aload_n 0, 1), (118, .getfield 70, 3), (121, .iload_n 1, 1), (122, .iaload, 1), (123, .ireturn, 1), (124, .aload_n 0, 1), (125, .getfield 73, 3), (128, .iload_n 1, 1), (129, .iaload, 1), (130, .ireturn, 1), (131, .aload_n 0, 1), (132, .getfield 76, 3), (135, .iload_n 1, 1), (136, .iaload, 1), (137, .ireturn, 1), (138, .aload_n 0, 1), (139, .getfield 79, 3), (142, .iload_n 1, 1), (143, .iaload, 1), (144, .ireturn, 1), (145, .aload_n 0, 1), (146, .aload_n 0, 1), (147, .getfield 60, 3), (150, .iload_n 1, 1), (151, .iaload, 1), (152, .invokevirtual 523, 3), (155, .ireturn, 1)]
theorem dt_Ref_ticket (i : Nat) : decode (jm_cod M_Ref_ticket) (tab_Ref_ticket.getD i (0, .aload_n 0, 1)).1 = .ok ((tab_Ref_ticket.getD i (0, .aload_n 0, 1)).2.1, (tab_Ref_ticket.getD i (0, .aload_n 0, 1)).2.2) := j_tab (by decide +kernel) i
theorem d_Ref_ticket_0 : decode (jm_cod M_Ref_ticket) 0 = .ok (.aload_n 0, 1) := dt_Ref_ticket 0
theorem d_Ref_ticket_1 : decode (jm_cod M_Ref_ticket) 1 = .ok (.aload_n 0, 1) := dt_Ref_ticket 1
theorem d_Ref_ticket_2 : decode (jm_cod M_Ref_ticket) 2 = .ok (.iload_n 1, 1) := dt_Ref_ticket 2
theorem d_Ref_ticket_3 : decode (jm_cod M_Ref_ticket) 3 = .ok (.invokevirtual 623, 3) := dt_Ref_ticket 3
theorem d_Ref_ticket_6 : decode (jm_cod M_Ref_ticket) 6 = .ok (.ifCond .ne 7, 3) := dt_Ref_ticket 4
theorem d_Ref_ticket_9 : decode (jm_cod M_Ref_ticket) 9 = .ok (.iconst 1, 1) := dt_Ref_ticket 5
theorem d_Ref_ticket_10 : decode (jm_cod M_Ref_ticket) 10 = .ok (.goto 20, 3) := dt_Ref_ticket 6
theorem d_Ref_ticket_13 : decode (jm_cod M_Ref_ticket) 13 = .ok (.iload_n 2, 1) := dt_Ref_ticket 7
theorem d_Ref_ticket_14 : decode (jm_cod M_Ref_ticket) 14 = .ok (.i2l, 1) := dt_Ref_ticket 8
theorem d_Ref_ticket_15 : decode (jm_cod M_Ref_ticket) 15 = .ok (.lconst 0, 1) := dt_Ref_ticket 9
theorem d_Ref_ticket_16 : decode (jm_cod M_Ref_ticket) 16 = .ok (.ldc2_w 626, 3) := dt_Ref_ticket 10
theorem d_Ref_ticket_19 : decode (jm_cod M_Ref_ticket) 19 = .ok (.invokestatic 599, 3) := dt_Ref_ticket 11
theorem d_Ref_ticket_22 : decode (jm_cod M_Ref_ticket) 22 = .ok (.ifCond .ne 7, 3) := dt_Ref_ticket 12
theorem d_Ref_ticket_25 : decode (jm_cod M_Ref_ticket) 25 = .ok (.iconst 2, 1) := dt_Ref_ticket 13
theorem d_Ref_ticket_26 : decode (jm_cod M_Ref_ticket) 26 = .ok (.goto 4, 3) := dt_Ref_ticket 14
theorem d_Ref_ticket_29 : decode (jm_cod M_Ref_ticket) 29 = .ok (.iconst 0, 1) := dt_Ref_ticket 15
theorem d_Ref_ticket_30 : decode (jm_cod M_Ref_ticket) 30 = .ok (.putfield 303, 3) := dt_Ref_ticket 16
theorem d_Ref_ticket_33 : decode (jm_cod M_Ref_ticket) 33 = .ok (.aload_n 0, 1) := dt_Ref_ticket 17
theorem d_Ref_ticket_34 : decode (jm_cod M_Ref_ticket) 34 = .ok (.getfield 303, 3) := dt_Ref_ticket 18
theorem d_Ref_ticket_37 : decode (jm_cod M_Ref_ticket) 37 = .ok (.ifCond .le 5, 3) := dt_Ref_ticket 19
theorem d_Ref_ticket_40 : decode (jm_cod M_Ref_ticket) 40 = .ok (.iconst 0, 1) := dt_Ref_ticket 20
theorem d_Ref_ticket_41 : decode (jm_cod M_Ref_ticket) 41 = .ok (.ireturn, 1) := dt_Ref_ticket 21
theorem d_Ref_ticket_42 : decode (jm_cod M_Ref_ticket) 42 = .ok (.iload_n 2, 1) := dt_Ref_ticket 22
theorem d_Ref_ticket_43 : decode (jm_cod M_Ref_ticket) 43 = .ok (.tableswitch 102 0 5 #[37, 67, 74, 81, 88, 95], 37) := dt_Ref_ticket 23
theorem d_Ref_ticket_80 : decode (jm_cod M_Ref_ticket) 80 = .ok (.aload_n 0, 1) := dt_Ref_ticket 24
theorem d_Ref_ticket_81 : decode (jm_cod M_Ref_ticket) 81 = .ok (.getfield 76, 3) := dt_Ref_ticket 25
theorem d_Ref_ticket_84 : decode (jm_cod M_Ref_ticket) 84 = .ok (.iload_n 1, 1) := dt_Ref_ticket 26
theorem d_Ref_ticket_85 : decode (jm_cod M_Ref_ticket) 85 = .ok (.iaload, 1) := dt_Ref_ticket 27
theorem d_Ref_ticket_86 : decode (jm_cod M_Ref_ticket) 86 = .ok (.iconst (-1), 1) := dt_Ref_ticket 28
theorem d_Ref_ticket_87 : decode (jm_cod M_Ref_ticket) 87 = .ok (.if_icmp .eq 7, 3) := dt_Ref_ticket 29
theorem d_Ref_ticket_90 : decode (jm_cod M_Ref_ticket) 90 = .ok (.iconst 2, 1) := dt_Ref_ticket 30
theorem d_Ref_ticket_91 : decode (jm_cod M_Ref_ticket) 91 = .ok (.goto 18, 3) := dt_Ref_ticket 31
theorem d_Ref_ticket_94 : decode (jm_cod M_Ref_ticket) 94 = .ok (.aload_n 0, 1) := dt_Ref_ticket 32
theorem d_Ref_ticket_95 : decode (jm_cod M_Ref_ticket) 95 = .ok (.getfield 73, 3) := dt_Ref_ticket 33
theorem d_Ref_ticket_98 : decode (jm_cod M_Ref_ticket) 98 = .ok (.iload_n 1, 1) := dt_Ref_ticket 34
theorem d_Ref_ticket_99 : decode (jm_cod M_Ref_ticket) 99 = .ok (.iaload, 1) := dt_Ref_ticket 35
theorem d_Ref_ticket_100 : decode (jm_cod M_Ref_ticket) 100 = .ok (.iconst (-1), 1) := dt_Ref_ticket 36
theorem d_Ref_ticket_101 : decode (jm_cod M_Ref_ticket) 101 = .ok (.if_icmp .eq 7, 3) := dt_Ref_ticket 37
theorem d_Ref_ticket_104 : decode (jm_cod M_Ref_ticket) 104 = .ok (.iconst 1, 1) := dt_Ref_ticket 38
theorem d_Ref_ticket_105 : decode (jm_cod M_Ref_ticket) 105 = .ok (.goto 4, 3) := dt_Ref_ticket 39
theorem d_Ref_ticket_108 : decode (jm_cod M_Ref_ticket) 108 = .ok (.iconst 0, 1) := dt_Ref_ticket 40
theorem d_Ref_ticket_109 : decode (jm_cod M_Ref_ticket) 109 = .ok (.ireturn, 1) := dt_Ref_ticket 41
theorem d_Ref_ticket_110 : decode (jm_cod M_Ref_ticket) 110 = .ok (.aload_n 0, 1) := dt_Ref_ticket 42
theorem d_Ref_ticket_111 : decode (jm_cod M_Ref_ticket) 111 = .ok (.getfield 82, 3) := dt_Ref_ticket 43
theorem d_Ref_ticket_114 : decode (jm_cod M_Ref_ticket) 114 = .ok (.iload_n 1, 1) := dt_Ref_ticket 44
theorem d_Ref_ticket_115 : decode (jm_cod M_Ref_ticket) 115 = .ok (.iaload, 1) := dt_Ref_ticket 45
theorem d_Ref_ticket_116 : decode (jm_cod M_Ref_ticket) 116 = .ok (.ireturn, 1) := dt_Ref_ticket 46
theorem d_Ref_ticket_117 : decode (jm_cod M_Ref_ticket) 117 = .ok (.aload_n 0, 1) := dt_Ref_ticket 47
theorem d_Ref_ticket_118 : decode (jm_cod M_Ref_ticket) 118 = .ok (.getfield 70, 3) := dt_Ref_ticket 48
theorem d_Ref_ticket_121 : decode (jm_cod M_Ref_ticket) 121 = .ok (.iload_n 1, 1) := dt_Ref_ticket 49
theorem d_Ref_ticket_122 : decode (jm_cod M_Ref_ticket) 122 = .ok (.iaload, 1) := dt_Ref_ticket 50
theorem d_Ref_ticket_123 : decode (jm_cod M_Ref_ticket) 123 = .ok (.ireturn, 1) := dt_Ref_ticket 51
theorem d_Ref_ticket_124 : decode (jm_cod M_Ref_ticket) 124 = .ok (.aload_n 0, 1) := dt_Ref_ticket 52
theorem d_Ref_ticket_125 : decode (jm_cod M_Ref_ticket) 125 = .ok (.getfield 73, 3) := dt_Ref_ticket 53
theorem d_Ref_ticket_128 : decode (jm_cod M_Ref_ticket) 128 = .ok (.iload_n 1, 1) := dt_Ref_ticket 54
theorem d_Ref_ticket_129 : decode (jm_cod M_Ref_ticket) 129 = .ok (.iaload, 1) := dt_Ref_ticket 55
theorem d_Ref_ticket_130 : decode (jm_cod M_Ref_ticket) 130 = .ok (.ireturn, 1) := dt_Ref_ticket 56
theorem d_Ref_ticket_131 : decode (jm_cod M_Ref_ticket) 131 = .ok (.aload_n 0, 1) := dt_Ref_ticket 57
theorem d_Ref_ticket_132 : decode (jm_cod M_Ref_ticket) 132 = .ok (.getfield 76, 3) := dt_Ref_ticket 58
theorem d_Ref_ticket_135 : decode (jm_cod M_Ref_ticket) 135 = .ok (.iload_n 1, 1) := dt_Ref_ticket 59
theorem d_Ref_ticket_136 : decode (jm_cod M_Ref_ticket) 136 = .ok (.iaload, 1) := dt_Ref_ticket 60
theorem d_Ref_ticket_137 : decode (jm_cod M_Ref_ticket) 137 = .ok (.ireturn, 1) := dt_Ref_ticket 61
theorem d_Ref_ticket_138 : decode (jm_cod M_Ref_ticket) 138 = .ok (.aload_n 0, 1) := dt_Ref_ticket 62
theorem d_Ref_ticket_139 : decode (jm_cod M_Ref_ticket) 139 = .ok (.getfield 79, 3) := dt_Ref_ticket 63
theorem d_Ref_ticket_142 : decode (jm_cod M_Ref_ticket) 142 = .ok (.iload_n 1, 1) := dt_Ref_ticket 64
theorem d_Ref_ticket_143 : decode (jm_cod M_Ref_ticket) 143 = .ok (.iaload, 1) := dt_Ref_ticket 65
theorem d_Ref_ticket_144 : decode (jm_cod M_Ref_ticket) 144 = .ok (.ireturn, 1) := dt_Ref_ticket 66
theorem d_Ref_ticket_145 : decode (jm_cod M_Ref_ticket) 145 = .ok (.aload_n 0, 1) := dt_Ref_ticket 67
theorem d_Ref_ticket_146 : decode (jm_cod M_Ref_ticket) 146 = .ok (.aload_n 0, 1) := dt_Ref_ticket 68
theorem d_Ref_ticket_147 : decode (jm_cod M_Ref_ticket) 147 = .ok (.getfield 60, 3) := dt_Ref_ticket 69
theorem d_Ref_ticket_150 : decode (jm_cod M_Ref_ticket) 150 = .ok (.iload_n 1, 1) := dt_Ref_ticket 70
theorem d_Ref_ticket_151 : decode (jm_cod M_Ref_ticket) 151 = .ok (.iaload, 1) := dt_Ref_ticket 71
theorem d_Ref_ticket_152 : decode (jm_cod M_Ref_ticket) 152 = .ok (.invokevirtual 523, 3) := dt_Ref_ticket 72
theorem d_Ref_ticket_155 : decode (jm_cod M_Ref_ticket) 155 = .ok (.ireturn, 1) := dt_Ref_ticket 73
def tab_Ref_isTicket : List (Nat × Instr × Nat) := [(0, .iload_n 1, 1), (1, .i2l, 1), (2, .lconst 0, 1), (3, .aload_n 0, 1), (4, .getfield 337, 3), (7, .i2l, 1), (8, .lconst 1, 1), (9, .lsub, 1), (10, .invokestatic 599, 3), (13, .ireturn, 1)]
theorem dt_Ref_isTicket (i : Nat) : decode (jm_cod M_Ref_isTicket) (tab_Ref_isTicket.getD i (0, .iload_n 1, 1)).1 = .ok ((tab_Ref_isTicket.getD i (0, .iload_n 1, 1)).2.1, (tab_Ref_isTicket.getD i (0, .iload_n 1, 1)).2.2) := j_tab (by decide +kernel) i
theorem d_Ref_isTicket_0 : decode (jm_cod M_Ref_isTicket) 0 = .ok (.iload_n 1, 1) := dt_Ref_isTicket 0
theorem d_Ref_isTicket_1 : decode (jm_cod M_Ref_isTicket) 1 = .ok (.i2l, 1) := dt_Ref_isTicket 1
theorem d_Ref_isTicket_2 : decode (jm_cod M_Ref_isTicket) 2 = .ok (.lconst 0, 1) := dt_Ref_isTicket 2
theorem d_Ref_isTicket_3 : decode (jm_cod M_Ref_isTicket) 3 = .ok (.aload_n 0, 1) := dt_Ref_isTicket 3
theorem d_Ref_isTicket_4 : decode (jm_cod M_Ref_isTicket) 4 = .ok (.getfield 337, 3) := dt_Ref_isTicket 4
theorem d_Ref_isTicket_7 : decode (jm_cod M_Ref_isTicket) 7 = .ok (.i2l, 1) := dt_Ref_isTicket 5
theorem d_Ref_isTicket_8 : decode (jm_cod M_Ref_isTicket) 8 = .ok (.lconst 1, 1) := dt_Ref_isTicket 6
theorem d_Ref_isTicket_9 : decode (jm_cod M_Ref_isTicket) 9 = .ok (.lsub, 1) := dt_Ref_isTicket 7
theorem d_Ref_isTicket_10 : decode (jm_cod M_Ref_isTicket) 10 = .ok (.invokestatic 599, 3) := dt_Ref_isTicket 8
theorem d_Ref_isTicket_13 : decode (jm_cod M_Ref_isTicket) 13 = .ok (.ireturn, 1) := dt_Ref_isTicket 9
def tab_Ref_data : List (Nat × Instr × Nat) := [(0, .aload_n 0, 1), (1, .aload_n 0, 1), (2, .iload_n 1, 1), (3, .invokevirtual 623, 3), (6, .ifCond .eq 25, 3), (9, .iload_n 2, 1), (10, .i2l, 1), (11, .lconst 0, 1), (12, .aload_n 0, 1), (13, .getfield 79, 3), (16, .iload_n 1, 1), (17, .iaload, 1), (18, .i2l, 1), (19, .lconst 1, 1), (20, .lsub, 1), (21, .invokestatic 599, 3), (24, .ifCond .eq 7, 3), (27, .iconst 0, 1), (28, .goto 4, 3), (31, .iconst 1, 1), (32, .putfield 303, 3), (35, .aload_n 0, 1), (36, .getfield 303, 3), (39, .ifCond .le 7, 3), (42, .lconst 0, 1), (43, .goto 14, 3), (46, .aload_n 0, 1), (47, .getfield 85, 3), (50, .bipush 16, 2), (52, .iload_n 1, 1), (53, .imul, 1), (54, .iload_n 2, 1), (55, .iadd, 1), (56, .laload, 1), (57, .lreturn, 1)]
theorem dt_Ref_data (i : Nat) : decode (jm_cod M_Ref_data) (tab_Ref_data.getD i (0, .aload_n 0, 1)).1 = .ok ((tab_Ref_data.getD i (0, .aload_n 0, 1)).2.1, (tab_Ref_data.getD i (0, .aload_n 0, 1)).2.2) := j_tab (by decide +kernel) i
theorem d_Ref_data_0 : decode (jm_cod M_Ref_data) 0 = .ok (.aload_n 0, 1) := dt_Ref_data 0
theorem d_Ref_data_1 : decode (jm_cod M_Ref_data) 1 = .ok (.aload_n 0, 1) := dt_Ref_data 1
theorem d_Ref_data_2 : decode (jm_cod M_Ref_data) 2 = .ok (.iload_n 1, 1) := dt_Ref_data 2
theorem d_Ref_data_3 : decode (jm_cod M_Ref_data) 3 = .ok (.invokevirtual 623, 3) := dt_Ref_data 3
theorem d_Ref_data_6 : decode (jm_cod M_Ref_data) 6 = .ok (.ifCond .eq 25, 3) := dt_Ref_data 4
theorem d_Ref_data_9 : decode (jm_cod M_Ref_data) 9 = .ok (.iload_n 2, 1) := dt_Ref_data 5
theorem d_Ref_data_10 : decode (jm_cod M_Ref_data) 10 = .ok (.i2l, 1) := dt_Ref_data 6
theorem d_Ref_data_11 : decode (jm_cod M_Ref_data) 11 = .ok (.lconst 0, 1) := dt_Ref_data 7
theorem d_Ref_data_12 : decode (jm_cod M_Ref_data) 12 = .ok (.aload_n 0, 1) := dt_Ref_data 8
theorem d_Ref_data_13 : decode (jm_cod M_Ref_data) 13 = .ok (.getfield 79, 3) := dt_Ref_data 9
theorem d_Ref_data_16 : decode (jm_cod M_Ref_data) 16 = .ok (.iload_n 1, 1) := dt_Ref_data 10
theorem d_Ref_data_17 : decode (jm_cod M_Ref_data) 17 = .ok (.iaload, 1) := dt_Ref_data 11
theorem d_Ref_data_18 : decode (jm_cod M_Ref_data) 18 = .ok (.i2l, 1) := dt_Ref_data 12
theorem d_Ref_data_19 : decode (jm_cod M_Ref_data) 19 = .ok (.lconst 1, 1) := dt_Ref_data 13
theorem d_Ref_data_20 : decode (jm_cod M_Ref_data) 20 = .ok (.lsub, 1) := dt_Ref_data 14
theorem d_Ref_data_21 : decode (jm_cod M_Ref_data) 21 = .ok (.invokestatic 599, 3) := dt_Ref_data 15
theorem d_Ref_data_24 : decode (jm_cod M_Ref_data) 24 = .ok (.ifCond .eq 7, 3) := dt_Ref_data 16
theorem d_Ref_data_27 : decode (jm_cod M_Ref_data) 27 = .ok (.iconst 0, 1) := dt_Ref_data 17
theorem d_Ref_data_28 : decode (jm_cod M_Ref_data) 28 = .ok (.goto 4, 3) := dt_Ref_data 18
theorem d_Ref_data_31 : decode (jm_cod M_Ref_data) 31 = .ok (.iconst 1, 1) := dt_Ref_data 19
theorem d_Ref_data_32 : decode (jm_cod M_Ref_data) 32 = .ok (.putfield 303, 3) := dt_Ref_data 20
theorem d_Ref_data_35 : decode (jm_cod M_Ref_data) 35 = .ok (.aload_n 0, 1) := dt_Ref_data 21
theorem d_Ref_data_36 : decode (jm_cod M_Ref_data) 36 = .ok (.getfield 303, 3) := dt_Ref_data 22
theorem d_Ref_data_39 : decode (jm_cod M_Ref_data) 39 = .ok (.ifCond .le 7, 3) := dt_Ref_data 23
theorem d_Ref_data_42 : decode (jm_cod M_Ref_data) 42 = .ok (.lconst 0, 1) := dt_Ref_data 24
theorem d_Ref_data_43 : decode (jm_cod M_Ref_data) 43 = .ok (.goto 14, 3) := dt_Ref_data 25
theorem d_Ref_data_46 : decode (jm_cod M_Ref_data) 46 = .ok (.aload_n 0, 1) := dt_Ref_data 26
theorem d_Ref_data_47 : decode (jm_cod M_Ref_data) 47 = .ok (.getfield 85, 3) := dt_Ref_data 27
theorem d_Ref_data_50 : decode (jm_cod M_Ref_data) 50 = .ok (.bipush 16, 2) := dt_Ref_data 28
theorem d_Ref_data_52 : decode (jm_cod M_Ref_data) 52 = .ok (.iload_n 1, 1) := dt_Ref_data 29
theorem d_Ref_data_53 : decode (jm_cod M_Ref_data) 53 = .ok (.imul, 1) := dt_Ref_data 30
theorem d_Ref_data_54 : decode (jm_cod M_Ref_data) 54 = .ok (.iload_n 2, 1) := dt_Ref_data 31
theorem d_Ref_data_55 : decode (jm_cod M_Ref_data) 55 = .ok (.iadd, 1) := dt_Ref_data 32
theorem d_Ref_data_56 : decode (jm_cod M_Ref_data) 56 = .ok (.laload, 1) := dt_Ref_data 33
theorem d_Ref_data_57 : decode (jm_cod M_Ref_data) 57 = .ok (.lreturn, 1) := dt_Ref_data 34
def tab_Ref_forget : List (Nat × Instr × Nat) := [(0, .aload_n 0, 1), (1, .aload_n 0, 1), (2, .invokevirtual 605, 3), (5, .ifCond .le 7, 3), (8, .iconst 1, 1), (9, .goto 4, 3), (12, .iconst 0, 1), (13, .putfield 303, 3), (16, .aload_n 0, 1), (17, .getfield 303, 3), (20, .ifCond .le 5, 3), (23, .iconst 0, 1), (24, .ireturn, 1), (25, .aload_n 0, 1), (26, .getfield 337, 3), (29, .istore_n 1, 1), (30, .aload_n 0, 1), (31, .iconst 0, 1), (32, .putfield 337, 3), (35, .iload_n 1, 1), (36, .ireturn, 1)]
theorem dt_Ref_forget (i : Nat) : decode (jm_cod M_Ref_forget) (tab_Ref_forget.getD i (0, .aload_n 0, 1)).1 = .ok ((tab_Ref_forget.getD i (0, .aload_n 0, 1)).2.1, (tab_Ref_forget.getD i (0, .aload_n 0, 1)).2.2) := j_tab (by decide +kernel) i
theorem d_Ref_forget_0 : decode (jm_cod M_Ref_forget) 0 = .ok (.aload_n 0, 1) := dt_Ref_forget 0
theorem d_Ref_forget_1 : decode (jm_cod M_Ref_forget) 1 = .ok (.aload_n 0, 1) := dt_Ref_forget 1
theorem d_Ref_forget_2 : decode (jm_cod M_Ref_forget) 2 = .ok (.invokevirtual 605, 3) := dt_Ref_forget 2
theorem d_Ref_forget_5 : decode (jm_cod M_Ref_forget) 5 = .ok (.ifCond .le 7, 3) := dt_Ref_forget 3
theorem d_Ref_forget_8 : decode (jm_cod M_Ref_forget) 8 = .ok (.iconst 1, 1) := dt_Ref_forget 4
theorem d_Ref_forget_9 : decode (jm_cod M_Ref_forget) 9 = .ok (.goto 4, 3) := dt_Ref_forget 5
theorem d_Ref_forget_12 : decode (jm_cod M_Ref_forget) 12 = .ok (.iconst 0, 1) := dt_Ref_forget 6
theorem d_Ref_forget_13 : decode (jm_cod M_Ref_forget) 13 = .ok (.putfield 303, 3) := dt_Ref_forget 7
theorem d_Ref_forget_16 : decode (jm_cod M_Ref_forget) 16 = .ok (.aload_n 0, 1) := dt_Ref_forget 8
theorem d_Ref_forget_17 : decode (jm_cod M_Ref_forget) 17 = .ok (.getfield 303, 3) := dt_Ref_forget 9
theorem d_Ref_forget_20 : decode (jm_cod M_Ref_forget) 20 = .ok (.ifCond .le 5, 3) := dt_Ref_forget 10
theorem d_Ref_forget_23 : decode (jm_cod M_Ref_forget) 23 = .ok (.iconst 0, 1) := dt_Ref_forget 11
theorem d_Ref_forget_24 : decode (jm_cod M_Ref_forget) 24 = .ok (.ireturn, 1) := dt_Ref_forget 12
theorem d_Ref_forget_25 : decode (jm_cod M_Ref_forget) 25 = .ok (.aload_n 0, 1) := dt_Ref_forget 13
theorem d_Ref_forget_26 : decode (jm_cod M_Ref_forget) 26 = .ok (.getfield 337, 3) := dt_Ref_forget 14
theorem d_Ref_forget_29 : decode (jm_cod M_Ref_forget) 29 = .ok (.istore_n 1, 1) := dt_Ref_forget 15
theorem d_Ref_forget_30 : decode (jm_cod M_Ref_forget) 30 = .ok (.aload_n 0, 1) := dt_Ref_forget 16
theorem d_Ref_forget_31 : decode (jm_cod M_Ref_forget) 31 = .ok (.iconst 0, 1) := dt_Ref_forget 17
theorem d_Ref_forget_32 : decode (jm_cod M_Ref_forget) 32 = .ok (.putfield 337, 3) := dt_Ref_forget 18
theorem d_Ref_forget_35 : decode (jm_cod M_Ref_forget) 35 = .ok (.iload_n 1, 1) := dt_Ref_forget 19
theorem d_Ref_forget_36 : decode (jm_cod M_Ref_forget) 36 = .ok (.ireturn, 1) := dt_Ref_forget 20
def tab_Ref_wire : List (Nat × Instr × Nat) := [(0, .aload_n 0, 1), (1, .aload_n 0, 1), (2, .iload_n 1, 1), (3, .iload_n 2, 1), (4, .invokevirtual 628, 3), (7, .ifCond .eq 15, 3), (10, .iload_n 3, 1), (11, .i2l, 1), (12, .lconst 0, 1), (13, .ldc2_w 609, 3), (16, .invokestatic 599, 3), (19, .ifCond .ne 7, 3), (22, .iconst 1, 1), (23, .goto 21, 3), (26, .iload 4, 2), (28, .i2l, 1), (29, .lconst 0, 1), (30, .ldc2_w 612, 3), (33, .invokestatic 599, 3), (36, .ifCond .ne 7, 3), (39, .iconst 2, 1), (40, .goto 4, 3), (43, .iconst 0, 1), (44, .putfield 303, 3), (47, .aload_n 0, 1), (48, .getfield 303, 3), (51, .ifCond .le 5, 3), (54, .iconst 0, 1), (55, .ireturn, 1), (56, .iload_n 1, 1), (57, .iload_n 2, 1), (58, .iload_n 3, 1), (59, .invokestatic 631, 3), (62, .istore 5, 2), (64, .iload 4, 2), (66, .ifCond .ne 21, 3), (69, .aload_n 0, 1), (70, .getfield 88, 3), (73, .iload 5, 2), (75, .baload, 1), (76, .ifCond .eq 7, 3), (79, .iconst 1, 1), (80, .goto 38, 3), (83, .iconst 0, 1), (84, .goto 34, 3), (87, .iload 4, 2), (89, .iconst 1, 1), (90, .if_icmp .ne 21, 3), (93, .aload_n 0, 1), (94, .getfield 91, 3), (97, .iload 5, 2), (99, .baload, 1), (100, .ifCond .eq 7, 3), (103, .iconst 1, 1), (104, .goto 14, 3), (107, .iconst 0, 1), (108, .goto 10, 3), (111, .aload_n 0, 1), (112, .getfield 97, 3), (115, .iload 5, 2), (117, .iaload, 1), (118, .ireturn, 1)]
theorem dt_Ref_wire (i : Nat) : decode (jm_cod M_Ref_wire) (tab_Ref_wire.getD i (0, .aload_n 0, 1)).1 = .ok ((tab_Ref_wire.getD i (0, .aload_n 0, 1)).2.1, (tab_Ref_wire.getD i (0, .aload_n 0, 1)).2.2) := j_tab (by decide +kernel) i
theorem d_Ref_wire_0 : decode (jm_cod M_Ref_wire) 0 = .ok (.aload_n 0, 1) := dt_Ref_wire 0
theorem d_Ref_wire_1 : decode (jm_cod M_Ref_wire) 1 = .ok (.aload_n 0, 1) := dt_Ref_wire 1
theorem d_Ref_wire_2 : decode (jm_cod M_Ref_wire) 2 = .ok (.iload_n 1, 1) := dt_Ref_wire 2
theorem d_Ref_wire_3 : decode (jm_cod M_Ref_wire) 3 = .ok (.iload_n 2, 1) := dt_Ref_wire 3
theorem d_Ref_wire_4 : decode (jm_cod M_Ref_wire) 4 = .ok (.invokevirtual 628, 3) := dt_Ref_wire 4
theorem d_Ref_wire_7 : decode (jm_cod M_Ref_wire) 7 = .ok (.ifCond .eq 15, 3) := dt_Ref_wire 5
theorem d_Ref_wire_10 : decode (jm_cod M_Ref_wire) 10 = .ok (.iload_n 3, 1) := dt_Ref_wire 6
theorem d_Ref_wire_11 : decode (jm_cod M_Ref_wire) 11 = .ok (.i2l, 1) := dt_Ref_wire 7
theorem d_Ref_wire_12 : decode (jm_cod M_Ref_wire) 12 = .ok (.lconst 0, 1) := dt_Ref_wire 8
theorem d_Ref_wire_13 : decode (jm_cod M_Ref_wire) 13 = .ok (.ldc2_w 609, 3) := dt_Ref_wire 9
theorem d_Ref_wire_16 : decode (jm_cod M_Ref_wire) 16 = .ok (.invokestatic 599, 3) := dt_Ref_wire 10
theorem d_Ref_wire_19 : decode (jm_cod M_Ref_wire) 19 = .ok (.ifCond .ne 7, 3) := dt_Ref_wire 11
theorem d_Ref_wire_22 : decode (jm_cod M_Ref_wire) 22 = .ok (.iconst 1, 1) := dt_Ref_wire 12
theorem d_Ref_wire_23 : decode (jm_cod M_Ref_wire) 23 = .ok (.goto 21, 3) := dt_Ref_wire 13
theorem d_Ref_wire_26 : decode (jm_cod M_Ref_wire) 26 = .ok (.iload 4, 2) := dt_Ref_wire 14
theorem d_Ref_wire_28 : decode (jm_cod M_Ref_wire) 28 = .ok (.i2l, 1) := dt_Ref_wire 15
theorem d_Ref_wire_29 : decode (jm_cod M_Ref_wire) 29 = .ok (.lconst 0, 1) := dt_Ref_wire 16
theorem d_Ref_wire_30 : decode (jm_cod M_Ref_wire) 30 = .ok (.ldc2_w 612, 3) := dt_Ref_wire 17
theorem d_Ref_wire_33 : decode (jm_cod M_Ref_wire) 33 = .ok (.invokestatic 599, 3) := dt_Ref_wire 18
theorem d_Ref_wire_36 : decode (jm_cod M_Ref_wire) 36 = .ok (.ifCond .ne 7, 3) := dt_Ref_wire 19
theorem d_Ref_wire_39 : decode (jm_cod M_Ref_wire) 39 = .ok (.iconst 2, 1) := dt_Ref_wire 20
theorem d_Ref_wire_40 : decode (jm_cod M_Ref_wire) 40 = .ok (.goto 4, 3) := dt_Ref_wire 21
theorem d_Ref_wire_43 : decode (jm_cod M_Ref_wire) 43 = .ok (.iconst 0, 1) := dt_Ref_wire 22
theorem d_Ref_wire_44 : decode (jm_cod M_Ref_wire) 44 = .ok (.putfield 303, 3) := dt_Ref_wire 23
theorem d_Ref_wire_47 : decode (jm_cod M_Ref_wire) 47 = .ok (.aload_n 0, 1) := dt_Ref_wire 24
theorem d_Ref_wire_48 : decode (jm_cod M_Ref_wire) 48 = .ok (.getfield 303, 3) := dt_Ref_wire 25
theorem d_Ref_wire_51 : decode (jm_cod M_Ref_wire) 51 = .ok (.ifCond .le 5, 3) := dt_Ref_wire 26
theorem d_Ref_wire_54 : decode (jm_cod M_Ref_wire) 54 = .ok (.iconst 0, 1) := dt_Ref_wire 27
theorem d_Ref_wire_55 : decode (jm_cod M_Ref_wire) 55 = .ok (.ireturn, 1) := dt_Ref_wire 28
theorem d_Ref_wire_56 : decode (jm_cod M_Ref_wire) 56 = .ok (.iload_n 1, 1) := dt_Ref_wire 29
theorem d_Ref_wire_57 : decode (jm_cod M_Ref_wire) 57 = .ok (.iload_n 2, 1) := dt_Ref_wire 30
theorem d_Ref_wire_58 : decode (jm_cod M_Ref_wire) 58 = .ok (.iload_n 3, 1) := dt_Ref_wire 31
theorem d_Ref_wire_59 : decode (jm_cod M_Ref_wire) 59 = .ok (.invokestatic 631, 3) := dt_Ref_wire 32
theorem d_Ref_wire_62 : decode (jm_cod M_Ref_wire) 62 = .ok (.istore 5, 2) := dt_Ref_wire 33
theorem d_Ref_wire_64 : decode (jm_cod M_Ref_wire) 64 = .ok (.iload 4, 2) := dt_Ref_wire 34
theorem d_Ref_wire_66 : decode (jm_cod M_Ref_wire) 66 = .ok (.ifCond .ne 21, 3) := dt_Ref_wire 35
theorem d_Ref_wire_69 : decode (jm_cod M_Ref_wire) 69 = .ok (.aload_n 0, 1) := dt_Ref_wire 36
theorem d_Ref_wire_70 : decode (jm_cod M_Ref_wire) 70 = .ok (.getfield 88, 3) := dt_Ref_wire 37
theorem d_Ref_wire_73 : decode (jm_cod M_Ref_wire) 73 = .ok (.iload 5, 2) := dt_Ref_wire 38
theorem d_Ref_wire_75 : decode (jm_cod M_Ref_wire) 75 = .ok (.baload, 1) := dt_Ref_wire 39
theorem d_Ref_wire_76 : decode (jm_cod M_Ref_wire) 76 = .ok (.ifCond .eq 7, 3) := dt_Ref_wire 40
theorem d_Ref_wire_79 : decode (jm_cod M_Ref_wire) 79 = .ok (.iconst 1, 1) := dt_Ref_wire 41
theorem d_Ref_wire_80 : decode (jm_cod M_Ref_wire) 80 = .ok (.goto 38, 3) := dt_Ref_wire 42
theorem d_Ref_wire_83 : decode (jm_cod M_Ref_wire) 83 = .ok (.iconst 0, 1) := dt_Ref_wire 43
theorem d_Ref_wire_84 : decode (jm_cod M_Ref_wire) 84 = .ok (.goto 34, 3) := dt_Ref_wire 44
theorem d_Ref_wire_87 : decode (jm_cod M_Ref_wire) 87 = .ok (.iload 4, 2) := dt_Ref_wire 45
theorem d_Ref_wire_89 : decode (jm_cod M_Ref_wire) 89 = .ok (.iconst 1, 1) := dt_Ref_wire 46
theorem d_Ref_wire_90 : decode (jm_cod M_Ref_wire) 90 = .ok (.if_icmp .ne 21, 3) := dt_Ref_wire 47
theorem d_Ref_wire_93 : decode (jm_cod M_Ref_wire) 93 = .ok (.aload_n 0, 1) := dt_Ref_wire 48
theorem d_Ref_wire_94 : decode (jm_cod M_Ref_wire) 94 = .ok (.getfield 91, 3) := dt_Ref_wire 49
theorem d_Ref_wire_97 : decode (jm_cod M_Ref_wire) 97 = .ok (.iload 5, 2) := dt_Ref_wire 50
theorem d_Ref_wire_99 : decode (jm_cod M_Ref_wire) 99 = .ok (.baload, 1) := dt_Ref_wire 51
theorem d_Ref_wire_100 : decode (jm_cod M_Ref_wire) 100 = .ok (.ifCond .eq 7, 3) := dt_Ref_wire 52
theorem d_Ref_wire_103 : decode (jm_cod M_Ref_wire) 103 = .ok (.iconst 1, 1) := dt_Ref_wire 53
theorem d_Ref_wire_104 : decode (jm_cod M_Ref_wire) 104 = .ok (.goto 14, 3) := dt_Ref_wire 54
theorem d_Ref_wire_107 : decode (jm_cod M_Ref_wire) 107 = .ok (.iconst 0, 1) := dt_Ref_wire 55
theorem d_Ref_wire_108 : decode (jm_cod M_Ref_wire) 108 = .ok (.goto 10, 3) := dt_Ref_wire 56
theorem d_Ref_wire_111 : decode (jm_cod M_Ref_wire) 111 = .ok (.aload_n 0, 1) := dt_Ref_wire 57
theorem d_Ref_wire_112 : decode (jm_cod M_Ref_wire) 112 = .ok (.getfield 97, 3) := dt_Ref_wire 58
theorem d_Ref_wire_115 : decode (jm_cod M_Ref_wire) 115 = .ok (.iload 5, 2) := dt_Ref_wire 59
theorem d_Ref_wire_117 : decode (jm_cod M_Ref_wire) 117 = .ok (.iaload, 1) := dt_Ref_wire 60
theorem d_Ref_wire_118 : decode (jm_cod M_Ref_wire) 118 = .ok (.ireturn, 1) := dt_Ref_wire 61
def tab_Ref_isSide : List (Nat × Instr × Nat) := [(0, .iload_n 1, 1), (1, .ifCond .ne 19, 3), (4, .iload_n 2, 1), (5, .i2l, 1), (6, .lconst 0, 1), (7, .aload_n 0, 1), (8, .getfield 290, 3), (11, .i2l, 1), (12, .lconst 1, 1), (13, .lsub, 1), (14, .invokestatic 599, 3), (17, .goto 29, 3), (20, .iload_n 1, 1), (21, .iconst 1, 1), (22, .if_icmp .ne 23, 3), (25, .iload_n 2, 1), (26, .i2l, 1), (27, .lconst 0, 1), (28, .aload_n 0, 1), (29, .getfield 294, 3), (32, .i2l, 1), (33, .lconst 1, 1), (34, .lsub, 1), (35, .invokestatic 599, 3), (38, .ifCond .eq 7, 3), (41, .iconst 1, 1), (42, .goto 4, 3), (45, .iconst 0, 1), (46, .ireturn, 1)]
theorem dt_Ref_isSide (i : Nat) : decode (jm_cod M_Ref_isSide) (tab_Ref_isSide.getD i (0, .iload_n 1, 1)).1 = .ok ((tab_Ref_isSide.getD i (0, .iload_n 1, 1)).2.1, (tab_Ref_isSide.getD i (0, .iload_n 1, 1)).2.2) := j_tab (by decide +kernel) i
theorem d_Ref_isSide_0 : decode (jm_cod M_Ref_isSide) 0 = .ok (.iload_n 1, 1) := dt_Ref_isSide 0
theorem d_Ref_isSide_1 : decode (jm_cod M_Ref_isSide) 1 = .ok (.ifCond .ne 19, 3) := dt_Ref_isSide 1
theorem d_Ref_isSide_4 : decode (jm_cod M_Ref_isSide) 4 = .ok (.iload_n 2, 1) := dt_Ref_isSide 2
theorem d_Ref_isSide_5 : decode (jm_cod M_Ref_isSide) 5 = .ok (.i2l, 1) := dt_Ref_isSide 3
theorem d_Ref_isSide_6 : decode (jm_cod M_Ref_isSide) 6 = .ok (.lconst 0, 1) := dt_Ref_isSide 4
theorem d_Ref_isSide_7 : decode (jm_cod M_Ref_isSide) 7 = .ok (.aload_n 0, 1) := dt_Ref_isSide 5
theorem d_Ref_isSide_8 : decode (jm_cod M_Ref_isSide) 8 = .ok (.getfield 290, 3) := dt_Ref_isSide 6
theorem d_Ref_isSide_11 : decode (jm_cod M_Ref_isSide) 11 = .ok (.i2l, 1) := dt_Ref_isSide 7
theorem d_Ref_isSide_12 : decode (jm_cod M_Ref_isSide) 12 = .ok (.lconst 1, 1) := dt_Ref_isSide 8
theorem d_Ref_isSide_13 : decode (jm_cod M_Ref_isSide) 13 = .ok (.lsub, 1) := dt_Ref_isSide 9
theorem d_Ref_isSide_14 : decode (jm_cod M_Ref_isSide) 14 = .ok (.invokestatic 599, 3) := dt_Ref_isSide 10
theorem d_Ref_isSide_17 : decode (jm_cod M_Ref_isSide) 17 = .ok (.goto 29, 3) := dt_Ref_isSide 11
theorem d_Ref_isSide_20 : decode (jm_cod M_Ref_isSide) 20 = .ok (.iload_n 1, 1) := dt_Ref_isSide 12
theorem d_Ref_isSide_21 : decode (jm_cod M_Ref_isSide) 21 = .ok (.iconst 1, 1) := dt_Ref_isSide 13
theorem d_Ref_isSide_22 : decode (jm_cod M_Ref_isSide) 22 = .ok (.if_icmp .ne 23, 3) := dt_Ref_isSide 14
theorem d_Ref_isSide_25 : decode (jm_cod M_Ref_isSide) 25 = .ok (.iload_n 2, 1) := dt_Ref_isSide 15
theorem d_Ref_isSide_26 : decode (jm_cod M_Ref_isSide) 26 = .ok (.i2l, 1) := dt_Ref_isSide 16
theorem d_Ref_isSide_27 : decode (jm_cod M_Ref_isSide) 27 = .ok (.lconst 0, 1) := dt_Ref_isSide 17
theorem d_Ref_isSide_28 : decode (jm_cod M_Ref_isSide) 28 = .ok (.aload_n 0, 1) := dt_Ref_isSide 18
theorem d_Ref_isSide_29 : decode (jm_cod M_Ref_isSide) 29 = .ok (.getfield 294, 3) := dt_Ref_isSide 19
theorem d_Ref_isSide_32 : decode (jm_cod M_Ref_isSide) 32 = .ok (.i2l, 1) := dt_Ref_isSide 20
theorem d_Ref_isSide_33 : decode (jm_cod M_Ref_isSide) 33 = .ok (.lconst 1, 1) := dt_Ref_isSide 21
theorem d_Ref_isSide_34 : decode (jm_cod M_Ref_isSide) 34 = .ok (.lsub, 1) := dt_Ref_isSide 22
theorem d_Ref_isSide_35 : decode (jm_cod M_Ref_isSide) 35 = .ok (.invokestatic 599, 3) := dt_Ref_isSide 23
theorem d_Ref_isSide_38 : decode (jm_cod M_Ref_isSide) 38 = .ok (.ifCond .eq 7, 3) := dt_Ref_isSide 24
theorem d_Ref_isSide_41 : decode (jm_cod M_Ref_isSide) 41 = .ok (.iconst 1, 1) := dt_Ref_isSide 25
theorem d_Ref_isSide_42 : decode (jm_cod M_Ref_isSide) 42 = .ok (.goto 4, 3) := dt_Ref_isSide 26
theorem d_Ref_isSide_45 : decode (jm_cod M_Ref_isSide) 45 = .ok (.iconst 0, 1) := dt_Ref_isSide 27
theorem d_Ref_isSide_46 : decode (jm_cod M_Ref_isSide) 46 = .ok (.ireturn, 1) := dt_Ref_isSide 28
def tab_Ref_wireOf : List (Nat × Instr × Nat) := [(0, .iconst 5, 1), (1, .iconst 4, 1), (2, .iload_n 0, 1), (3, .imul, 1), (4, .iload_n 1, 1), (5, .iadd, 1), (6, .imul, 1), (7, .iload_n 2, 1), (8, .iadd, 1), (9, .ireturn, 1)]
theorem dt_Ref_wireOf (i : Nat) : decode (jm_cod M_Ref_wireOf) (tab_Ref_wireOf.getD i (0, .iconst 5, 1)).1 = .ok ((tab_Ref_wireOf.getD i (0, .iconst 5, 1)).2.1, (tab_Ref_wireOf.getD i (0, .iconst 5, 1)).2.2) := j_tab (by decide +kernel) i
theorem d_Ref_wireOf_0 : decode (jm_cod M_Ref_wireOf) 0 = .ok (.iconst 5, 1) := dt_Ref_wireOf 0
theorem d_Ref_wireOf_1 : decode (jm_cod M_Ref_wireOf) 1 = .ok (.iconst 4, 1) := dt_Ref_wireOf 1
theorem d_Ref_wireOf_2 : decode (jm_cod M_Ref_wireOf) 2 = .ok (.iload_n 0, 1) := dt_Ref_wireOf 2
theorem d_Ref_wireOf_3 : decode (jm_cod M_Ref_wireOf) 3 = .ok (.imul, 1) := dt_Ref_wireOf 3
theorem d_Ref_wireOf_4 : decode (jm_cod M_Ref_wireOf) 4 = .ok (.iload_n 1, 1) := dt_Ref_wireOf 4
theorem d_Ref_wireOf_5 : decode (jm_cod M_Ref_wireOf) 5 = .ok (.iadd, 1) := dt_Ref_wireOf 5
theorem d_Ref_wireOf_6 : decode (jm_cod M_Ref_wireOf) 6 = .ok (.imul, 1) := dt_Ref_wireOf 6
theorem d_Ref_wireOf_7 : decode (jm_cod M_Ref_wireOf) 7 = .ok (.iload_n 2, 1) := dt_Ref_wireOf 7
theorem d_Ref_wireOf_8 : decode (jm_cod M_Ref_wireOf) 8 = .ok (.iadd, 1) := dt_Ref_wireOf 8
theorem d_Ref_wireOf_9 : decode (jm_cod M_Ref_wireOf) 9 = .ok (.ireturn, 1) := dt_Ref_wireOf 9
def tab_Ref_content : List (Nat × Instr × Nat) := [(0, .aload_n 0, 1), (1, .aload_n 0, 1), (2, .iload_n 1, 1), (3, .iload_n 2, 1), (4, .invokevirtual 628, 3), (7, .ifCond .eq 19, 3), (10, .iload_n 3, 1), (11, .i2l, 1), (12, .lconst 0, 1), (13, .ldc2_w 609, 3), (16, .invokestatic 599, 3), (19, .ifCond .eq 7, 3), (22, .iconst 0, 1), (23, .goto 4, 3), (26, .iconst 1, 1), (27, .putfield 303, 3), (30, .aload_n 0, 1), (31, .getfield 303, 3), (34, .ifCond .le 7, 3), (37, .lconst 0, 1), (38, .goto 14, 3), (41, .aload_n 0, 1), (42, .getfield 94, 3), (45, .iload_n 1, 1), (46, .iload_n 2, 1), (47, .iload_n 3, 1), (48, .invokestatic 631, 3), (51, .laload, 1), (52, .lreturn, 1)]
theorem dt_Ref_content (i : Nat) : decode (jm_cod M_Ref_content) (tab_Ref_content.getD i (0, .aload_n 0, 1)).1 = .ok ((tab_Ref_content.getD i (0, .aload_n 0, 1)).2.1, (tab_Ref_content.getD i (0, .aload_n 0, 1)).2.2) := j_tab (by decide +kernel) i
theorem d_Ref_content_0 : decode (jm_cod M_Ref_content) 0 = .ok (.aload_n 0, 1) := dt_Ref_content 0
theorem d_Ref_content_1 : decode (jm_cod M_Ref_content) 1 = .ok (.aload_n 0, 1) := dt_Ref_content 1
theorem d_Ref_content_2 : decode (jm_cod M_Ref_content) 2 = .ok (.iload_n 1, 1) := dt_Ref_content 2
theorem d_Ref_content_3 : decode (jm_cod M_Ref_content) 3 = .ok (.iload_n 2, 1) := dt_Ref_content 3
theorem d_Ref_content_4 : decode (jm_cod M_Ref_content) 4 = .ok (.invokevirtual 628, 3) := dt_Ref_content 4
theorem d_Ref_content_7 : decode (jm_cod M_Ref_content) 7 = .ok (.ifCond .eq 19, 3) := dt_Ref_content 5
theorem d_Ref_content_10 : decode (jm_cod M_Ref_content) 10 = .ok (.iload_n 3, 1) := dt_Ref_content 6
theorem d_Ref_content_11 : decode (jm_cod M_Ref_content) 11 = .ok (.i2l, 1) := dt_Ref_content 7
theorem d_Ref_content_12 : decode (jm_cod M_Ref_content) 12 = .ok (.lconst 0, 1) := dt_Ref_content 8
theorem d_Ref_content_13 : decode (jm_cod M_Ref_content) 13 = .ok (.ldc2_w 609, 3) := dt_Ref_content 9
theorem d_Ref_content_16 : decode (jm_cod M_Ref_content) 16 = .ok (.invokestatic 599, 3) := dt_Ref_content 10
theorem d_Ref_content_19 : decode (jm_cod M_Ref_content) 19 = .ok (.ifCond .eq 7, 3) := dt_Ref_content 11
theorem d_Ref_content_22 : decode (jm_cod M_Ref_content) 22 = .ok (.iconst 0, 1) := dt_Ref_content 12
theorem d_Ref_content_23 : decode (jm_cod M_Ref_content) 23 = .ok (.goto 4, 3) := dt_Ref_content 13
theorem d_Ref_content_26 : decode (jm_cod M_Ref_content) 26 = .ok (.iconst 1, 1) := dt_Ref_content 14
theorem d_Ref_content_27 : decode (jm_cod M_Ref_content) 27 = .ok (.putfield 303, 3) := dt_Ref_content 15
theorem d_Ref_content_30 : decode (jm_cod M_Ref_content) 30 = .ok (.aload_n 0, 1) := dt_Ref_content 16
theorem d_Ref_content_31 : decode (jm_cod M_Ref_content) 31 = .ok (.getfield 303, 3) := dt_Ref_content 17
theorem d_Ref_content_34 : decode (jm_cod M_Ref_content) 34 = .ok (.ifCond .le 7, 3) := dt_Ref_content 18
theorem d_Ref_content_37 : decode (jm_cod M_Ref_content) 37 = .ok (.lconst 0, 1) := dt_Ref_content 19
theorem d_Ref_content_38 : decode (jm_cod M_Ref_content) 38 = .ok (.goto 14, 3) := dt_Ref_content 20
theorem d_Ref_content_41 : decode (jm_cod M_Ref_content) 41 = .ok (.aload_n 0, 1) := dt_Ref_content 21
theorem d_Ref_content_42 : decode (jm_cod M_Ref_content) 42 = .ok (.getfield 94, 3) := dt_Ref_content 22
theorem d_Ref_content_45 : decode (jm_cod M_Ref_content) 45 = .ok (.iload_n 1, 1) := dt_Ref_content 23
theorem d_Ref_content_46 : decode (jm_cod M_Ref_content) 46 = .ok (.iload_n 2, 1) := dt_Ref_content 24
theorem d_Ref_content_47 : decode (jm_cod M_Ref_content) 47 = .ok (.iload_n 3, 1) := dt_Ref_content 25
theorem d_Ref_content_48 : decode (jm_cod M_Ref_content) 48 = .ok (.invokestatic 631, 3) := dt_Ref_content 26
theorem d_Ref_content_51 : decode (jm_cod M_Ref_content) 51 = .ok (.laload, 1) := dt_Ref_content 27
theorem d_Ref_content_52 : decode (jm_cod M_Ref_content) 52 = .ok (.lreturn, 1) := dt_Ref_content 28
def tab_Ref_port : List (Nat × Instr × Nat) := [(0, .aload_n 0, 1), (1, .aload_n 0, 1), (2, .iload_n 1, 1), (3, .iload_n 2, 1), (4, .invokevirtual 628, 3), (7, .ifCond .ne 7, 3), (10, .iconst 1, 1), (11, .goto 20, 3), (14, .iload_n 3, 1), (15, .i2l, 1), (16, .lconst 0, 1), (17, .ldc2_w 635, 3), (20, .invokestatic 599, 3), (23, .ifCond .ne 7, 3), (26, .iconst 2, 1), (27, .goto 4, 3), (30, .iconst 0, 1), (31, .putfield 303, 3), (34, .aload_n 0, 1), (35, .getfield 303, 3), (38, .ifCond .le 5, 3), (41, .iconst 0, 1), (42, .ireturn, 1), (43, .iconst 4, 1), (44, .iload_n 1, 1), (45, .imul, 1), (46, .iload_n 2, 1), (47, .iadd, 1), (48, .istore 4, 2), (50, .iload_n 3, 1), (51, .iconst 5, 1), (52, .if_icmp .ge 17, 3), (55, .aload_n 0, 1), (56, .getfield 103, 3), (59, .iconst 5, 1), (60, .iload 4, 2), (62, .imul, 1), (63, .iload_n 3, 1), (64, .iadd, 1), (65, .iaload, 1), (66, .goto 41, 3), (69, .iload_n 3, 1), (70, .iconst 5, 1), (71, .if_icmp .ne 13, 3), (74, .aload_n 0, 1), (75, .getfield 238, 3), (78, .iload 4, 2), (80, .iaload, 1), (81, .goto 26, 3), (84, .iload_n 3, 1), (85, .bipush 6, 2), (87, .if_icmp .ne 13, 3), (90, .aload_n 0, 1), (91, .getfield 241, 3), (94, .iload 4, 2), (96, .iaload, 1), (97, .goto 10, 3), (100, .aload_n 0, 1), (101, .getfield 244, 3), (104, .iload 4, 2), (106, .iaload, 1), (107, .ireturn, 1)]
theorem dt_Ref_port (i : Nat) : decode (jm_cod M_Ref_port) (tab_Ref_port.getD i (0, .aload_n 0, 1)).1 = .ok ((tab_Ref_port.getD i (0, .aload_n 0, 1)).2.1, (tab_Ref_port.getD i (0, .aload_n 0, 1)).2.2) := j_tab (by decide +kernel) i
theorem d_Ref_port_0 : decode (jm_cod M_Ref_port) 0 = .ok (.aload_n 0, 1) := dt_Ref_port 0
theorem d_Ref_port_1 : decode (jm_cod M_Ref_port) 1 = .ok (.aload_n 0, 1) := dt_Ref_port 1
theorem d_Ref_port_2 : decode (jm_cod M_Ref_port) 2 = .ok (.iload_n 1, 1) := dt_Ref_port 2
theorem d_Ref_port_3 : decode (jm_cod M_Ref_port) 3 = .ok (.iload_n 2, 1) := dt_Ref_port 3
theorem d_Ref_port_4 : decode (jm_cod M_Ref_port) 4 = .ok (.invokevirtual 628, 3) := dt_Ref_port 4
theorem d_Ref_port_7 : decode (jm_cod M_Ref_port) 7 = .ok (.ifCond .ne 7, 3) := dt_Ref_port 5
theorem d_Ref_port_10 : decode (jm_cod M_Ref_port) 10 = .ok (.iconst 1, 1) := dt_Ref_port 6
theorem d_Ref_port_11 : decode (jm_cod M_Ref_port) 11 = .ok (.goto 20, 3) := dt_Ref_port 7
theorem d_Ref_port_14 : decode (jm_cod M_Ref_port) 14 = .ok (.iload_n 3, 1) := dt_Ref_port 8
theorem d_Ref_port_15 : decode (jm_cod M_Ref_port) 15 = .ok (.i2l, 1) := dt_Ref_port 9
theorem d_Ref_port_16 : decode (jm_cod M_Ref_port) 16 = .ok (.lconst 0, 1) := dt_Ref_port 10
theorem d_Ref_port_17 : decode (jm_cod M_Ref_port) 17 = .ok (.ldc2_w 635, 3) := dt_Ref_port 11
theorem d_Ref_port_20 : decode (jm_cod M_Ref_port) 20 = .ok (.invokestatic 599, 3) := dt_Ref_port 12
theorem d_Ref_port_23 : decode (jm_cod M_Ref_port) 23 = .ok (.ifCond .ne 7, 3) := dt_Ref_port 13
theorem d_Ref_port_26 : decode (jm_cod M_Ref_port) 26 = .ok (.iconst 2, 1) := dt_Ref_port 14
theorem d_Ref_port_27 : decode (jm_cod M_Ref_port) 27 = .ok (.goto 4, 3) := dt_Ref_port 15
theorem d_Ref_port_30 : decode (jm_cod M_Ref_port) 30 = .ok (.iconst 0, 1) := dt_Ref_port 16
theorem d_Ref_port_31 : decode (jm_cod M_Ref_port) 31 = .ok (.putfield 303, 3) := dt_Ref_port 17
theorem d_Ref_port_34 : decode (jm_cod M_Ref_port) 34 = .ok (.aload_n 0, 1) := dt_Ref_port 18
theorem d_Ref_port_35 : decode (jm_cod M_Ref_port) 35 = .ok (.getfield 303, 3) := dt_Ref_port 19
theorem d_Ref_port_38 : decode (jm_cod M_Ref_port) 38 = .ok (.ifCond .le 5, 3) := dt_Ref_port 20
theorem d_Ref_port_41 : decode (jm_cod M_Ref_port) 41 = .ok (.iconst 0, 1) := dt_Ref_port 21
theorem d_Ref_port_42 : decode (jm_cod M_Ref_port) 42 = .ok (.ireturn, 1) := dt_Ref_port 22
theorem d_Ref_port_43 : decode (jm_cod M_Ref_port) 43 = .ok (.iconst 4, 1) := dt_Ref_port 23
theorem d_Ref_port_44 : decode (jm_cod M_Ref_port) 44 = .ok (.iload_n 1, 1) := dt_Ref_port 24
theorem d_Ref_port_45 : decode (jm_cod M_Ref_port) 45 = .ok (.imul, 1) := dt_Ref_port 25
theorem d_Ref_port_46 : decode (jm_cod M_Ref_port) 46 = .ok (.iload_n 2, 1) := dt_Ref_port 26
theorem d_Ref_port_47 : decode (jm_cod M_Ref_port) 47 = .ok (.iadd, 1) := dt_Ref_port 27
theorem d_Ref_port_48 : decode (jm_cod M_Ref_port) 48 = .ok (.istore 4, 2) := dt_Ref_port 28
theorem d_Ref_port_50 : decode (jm_cod M_Ref_port) 50 = .ok (.iload_n 3, 1) := dt_Ref_port 29
theorem d_Ref_port_51 : decode (jm_cod M_Ref_port) 51 = .ok (.iconst 5, 1) := dt_Ref_port 30
theorem d_Ref_port_52 : decode (jm_cod M_Ref_port) 52 = .ok (.if_icmp .ge 17, 3) := dt_Ref_port 31
theorem d_Ref_port_55 : decode (jm_cod M_Ref_port) 55 = .ok (.aload_n 0, 1) := dt_Ref_port 32
theorem d_Ref_port_56 : decode (jm_cod M_Ref_port) 56 = .ok (.getfield 103, 3) := dt_Ref_port 33
theorem d_Ref_port_59 : decode (jm_cod M_Ref_port) 59 = .ok (.iconst 5, 1) := dt_Ref_port 34
theorem d_Ref_port_60 : decode (jm_cod M_Ref_port) 60 = .ok (.iload 4, 2) := dt_Ref_port 35
theorem d_Ref_port_62 : decode (jm_cod M_Ref_port) 62 = .ok (.imul, 1) := dt_Ref_port 36
theorem d_Ref_port_63 : decode (jm_cod M_Ref_port) 63 = .ok (.iload_n 3, 1) := dt_Ref_port 37
theorem d_Ref_port_64 : decode (jm_cod M_Ref_port) 64 = .ok (.iadd, 1) := dt_Ref_port 38
theorem d_Ref_port_65 : decode (jm_cod M_Ref_port) 65 = .ok (.iaload, 1) := dt_Ref_port 39
theorem d_Ref_port_66 : decode (jm_cod M_Ref_port) 66 = .ok (.goto 41, 3) := dt_Ref_port 40
theorem d_Ref_port_69 : decode (jm_cod M_Ref_port) 69 = .ok (.iload_n 3, 1) := dt_Ref_port 41
theorem d_Ref_port_70 : decode (jm_cod M_Ref_port) 70 = .ok (.iconst 5, 1) := dt_Ref_port 42
theorem d_Ref_port_71 : decode (jm_cod M_Ref_port) 71 = .ok (.if_icmp .ne 13, 3) := dt_Ref_port 43
theorem d_Ref_port_74 : decode (jm_cod M_Ref_port) 74 = .ok (.aload_n 0, 1) := dt_Ref_port 44
theorem d_Ref_port_75 : decode (jm_cod M_Ref_port) 75 = .ok (.getfield 238, 3) := dt_Ref_port 45
theorem d_Ref_port_78 : decode (jm_cod M_Ref_port) 78 = .ok (.iload 4, 2) := dt_Ref_port 46
theorem d_Ref_port_80 : decode (jm_cod M_Ref_port) 80 = .ok (.iaload, 1) := dt_Ref_port 47
theorem d_Ref_port_81 : decode (jm_cod M_Ref_port) 81 = .ok (.goto 26, 3) := dt_Ref_port 48
theorem d_Ref_port_84 : decode (jm_cod M_Ref_port) 84 = .ok (.iload_n 3, 1) := dt_Ref_port 49
theorem d_Ref_port_85 : decode (jm_cod M_Ref_port) 85 = .ok (.bipush 6, 2) := dt_Ref_port 50
theorem d_Ref_port_87 : decode (jm_cod M_Ref_port) 87 = .ok (.if_icmp .ne 13, 3) := dt_Ref_port 51
theorem d_Ref_port_90 : decode (jm_cod M_Ref_port) 90 = .ok (.aload_n 0, 1) := dt_Ref_port 52
theorem d_Ref_port_91 : decode (jm_cod M_Ref_port) 91 = .ok (.getfield 241, 3) := dt_Ref_port 53
theorem d_Ref_port_94 : decode (jm_cod M_Ref_port) 94 = .ok (.iload 4, 2) := dt_Ref_port 54
theorem d_Ref_port_96 : decode (jm_cod M_Ref_port) 96 = .ok (.iaload, 1) := dt_Ref_port 55
theorem d_Ref_port_97 : decode (jm_cod M_Ref_port) 97 = .ok (.goto 10, 3) := dt_Ref_port 56
theorem d_Ref_port_100 : decode (jm_cod M_Ref_port) 100 = .ok (.aload_n 0, 1) := dt_Ref_port 57
theorem d_Ref_port_101 : decode (jm_cod M_Ref_port) 101 = .ok (.getfield 244, 3) := dt_Ref_port 58
theorem d_Ref_port_104 : decode (jm_cod M_Ref_port) 104 = .ok (.iload 4, 2) := dt_Ref_port 59
theorem d_Ref_port_106 : decode (jm_cod M_Ref_port) 106 = .ok (.iaload, 1) := dt_Ref_port 60
theorem d_Ref_port_107 : decode (jm_cod M_Ref_port) 107 = .ok (.ireturn, 1) := dt_Ref_port 61
def tab_Ref_target : List (Nat × Instr × Nat) := [(0, .aload_n 0, 1), (1, .iload_n 1, 1), (2, .i2l, 1), (3, .lconst 0, 1), (4, .aload_n 0, 1), (5, .getfield 294, 3), (8, .i2l, 1), (9, .invokestatic 599, 3), (12, .ifCond .ne 7, 3), (15, .iconst 1, 1), (16, .goto 20, 3), (19, .iload_n 2, 1), (20, .i2l, 1), (21, .lconst 0, 1), (22, .ldc2_w 312, 3), (25, .invokestatic 599, 3), (28, .ifCond .ne 7, 3), (31, .iconst 2, 1), (32, .goto 4, 3), (35, .iconst 0, 1), (36, .putfield 303, 3), (39, .aload_n 0, 1), (40, .getfield 303, 3), (43, .ifCond .le 5, 3), (46, .iconst 0, 1), (47, .ireturn, 1), (48, .iconst 0, 1), (49, .istore_n 3, 1), (50, .iconst 0, 1), (51, .istore 4, 2), (53, .iload 4, 2), (55, .aload_n 0, 1), (56, .getfield 526, 3), (59, .if_icmp .ge 32, 3), (62, .iload_n 2, 1), (63, .ifCond .ne 28, 3), (66, .iload_n 3, 1), (67, .aload_n 0, 1), (68, .getfield 124, 3), (71, .iload 4, 2), (73, .iaload, 1), (74, .iload_n 1, 1), (75, .if_icmp .ne 7, 3), (78, .iconst 1, 1), (79, .goto 4, 3), (82, .iconst 0, 1), (83, .iadd, 1), (84, .istore_n 3, 1), (85, .iinc 4 1, 3), (88, .goto (-35), 3), (91, .iconst 0, 1), (92, .istore 4, 2), (94, .iload 4, 2), (96, .aload_n 0, 1), (97, .getfield 529, 3), (100, .if_icmp .ge 33, 3), (103, .iload_n 2, 1), (104, .iconst 1, 1), (105, .if_icmp .ne 28, 3), (108, .iload_n 3, 1), (109, .aload_n 0, 1), (110, .getfield 136, 3), (113, .iload 4, 2), (115, .iaload, 1), (116, .iload_n 1, 1), (117, .if_icmp .ne 7, 3), (120, .iconst 1, 1), (121, .goto 4, 3), (124, .iconst 0, 1), (125, .iadd, 1), (126, .istore_n 3, 1), (127, .iinc 4 1, 3), (130, .goto (-36), 3), (133, .iload_n 2, 1), (134, .iconst 2, 1), (135, .if_icmp .ge 7, 3), (138, .iload_n 3, 1), (139, .goto 35, 3), (142, .iload_n 1, 1), (143, .aload_n 0, 1), (144, .getfield 294, 3), (147, .if_icmp .ne 7, 3), (150, .iconst 0, 1), (151, .goto 23, 3), (154, .iload_n 2, 1), (155, .iconst 2, 1), (156, .if_icmp .ne 12, 3), (159, .aload_n 0, 1), (160, .getfield 154, 3), (163, .iload_n 1, 1), (164, .iaload, 1), (165, .goto 9, 3), (168, .aload_n 0, 1), (169, .getfield 181, 3), (172, .iload_n 1, 1), (173, .iaload, 1), (174, .ireturn, 1)]
theorem dt_Ref_target (i : Nat) : decode (jm_cod M_Ref_target) (tab_Ref_target.getD i (0, .aload_n 0, 1)).1 = .ok ((tab_Ref_target.getD i (0, .aload_n 0, 1)).2.1, (tab_Ref_target.getD i (0, .aload_n 0, 1)).2.2) := j_tab (by decide +kernel) i
theorem d_Ref_target_0 : decode (jm_cod M_Ref_target) 0 = .ok (.aload_n 0, 1) := dt_Ref_target 0
theorem d_Ref_target_1 : decode (jm_cod M_Ref_target) 1 = .ok (.iload_n 1, 1) := dt_Ref_target 1
theorem d_Ref_target_2 : decode (jm_cod M_Ref_target) 2 = .ok (.i2l, 1) := dt_Ref_target 2
theorem d_Ref_target_3 : decode (jm_cod M_Ref_target) 3 = .ok (.lconst 0, 1) := dt_Ref_target 3
theorem d_Ref_target_4 : decode (jm_cod M_Ref_target) 4 = .ok (.aload_n 0, 1) := dt_Ref_target 4
theorem d_Ref_target_5 : decode (jm_cod M_Ref_target) 5 = .ok (.getfield 294, 3) := dt_Ref_target 5
theorem d_Ref_target_8 : decode (jm_cod M_Ref_target) 8 = .ok (.i2l, 1) := dt_Ref_target 6
theorem d_Ref_target_9 : decode (jm_cod M_Ref_target) 9 = .ok (.invokestatic 599, 3) := dt_Ref_target 7
theorem d_Ref_target_12 : decode (jm_cod M_Ref_target) 12 = .ok (.ifCond .ne 7, 3) := dt_Ref_target 8
theorem d_Ref_target_15 : decode (jm_cod M_Ref_target) 15 = .ok (.iconst 1, 1) := dt_Ref_target 9
theorem d_Ref_target_16 : decode (jm_cod M_Ref_target) 16 = .ok (.goto 20, 3) := dt_Ref_target 10
theorem d_Ref_target_19 : decode (jm_cod M_Ref_target) 19 = .ok (.iload_n 2, 1) := dt_Ref_target 11
theorem d_Ref_target_20 : decode (jm_cod M_Ref_target) 20 = .ok (.i2l, 1) := dt_Ref_target 12
theorem d_Ref_target_21 : decode (jm_cod M_Ref_target) 21 = .ok (.lconst 0, 1) := dt_Ref_target 13
theorem d_Ref_target_22 : decode (jm_cod M_Ref_target) 22 = .ok (.ldc2_w 312, 3) := dt_Ref_target 14
theorem d_Ref_target_25 : decode (jm_cod M_Ref_target) 25 = .ok (.invokestatic 599, 3) := dt_Ref_target 15
theorem d_Ref_target_28 : decode (jm_cod M_Ref_target) 28 = .ok (.ifCond .ne 7, 3) := dt_Ref_target 16
theorem d_Ref_target_31 : decode (jm_cod M_Ref_target) 31 = .ok (.iconst 2, 1) := dt_Ref_target 17
theorem d_Ref_target_32 : decode (jm_cod M_Ref_target) 32 = .ok (.goto 4, 3) := dt_Ref_target 18
theorem d_Ref_target_35 : decode (jm_cod M_Ref_target) 35 = .ok (.iconst 0, 1) := dt_Ref_target 19
theorem d_Ref_target_36 : decode (jm_cod M_Ref_target) 36 = .ok (.putfield 303, 3) := dt_Ref_target 20
theorem d_Ref_target_39 : decode (jm_cod M_Ref_target) 39 = .ok (.aload_n 0, 1) := dt_Ref_target 21
theorem d_Ref_target_40 : decode (jm_cod M_Ref_target) 40 = .ok (.getfield 303, 3) := dt_Ref_target 22
theorem d_Ref_target_43 : decode (jm_cod M_Ref_target) 43 = .ok (.ifCond .le 5, 3) := dt_Ref_target 23
theorem d_Ref_target_46 : decode (jm_cod M_Ref_target) 46 = .ok (.iconst 0, 1) := dt_Ref_target 24
theorem d_Ref_target_47 : decode (jm_cod M_Ref_target) 47 = .ok (.ireturn, 1) := dt_Ref_target 25
theorem d_Ref_target_48 : decode (jm_cod M_Ref_target) 48 = .ok (.iconst 0, 1) := dt_Ref_target 26
theorem d_Ref_target_49 : decode (jm_cod M_Ref_target) 49 = .ok (.istore_n 3, 1) := dt_Ref_target 27
theorem d_Ref_target_50 : decode (jm_cod M_Ref_target) 50 = .ok (.iconst 0, 1) := dt_Ref_target 28
theorem d_Ref_target_51 : decode (jm_cod M_Ref_target) 51 = .ok (.istore 4, 2) := dt_Ref_target 29
theorem d_Ref_target_53 : decode (jm_cod M_Ref_target) 53 = .ok (.iload 4, 2) := dt_Ref_target 30
theorem d_Ref_target_55 : decode (jm_cod M_Ref_target) 55 = .ok (.aload_n 0, 1) := dt_Ref_target 31
theorem d_Ref_target_56 : decode (jm_cod M_Ref_target) 56 = .ok (.getfield 526, 3) := dt_Ref_target 32
theorem d_Ref_target_59 : decode (jm_cod M_Ref_target) 59 = .ok (.if_icmp .ge 32, 3) := dt_Ref_target 33
theorem d_Ref_target_62 : decode (jm_cod M_Ref_target) 62 = .ok (.iload_n 2, 1) := dt_Ref_target 34
theorem d_Ref_target_63 : decode (jm_cod M_Ref_target) 63 = .ok (.ifCond .ne 28, 3) := dt_Ref_target 35
theorem d_Ref_target_66 : decode (jm_cod M_Ref_target) 66 = .ok (.iload_n 3, 1) := dt_Ref_target 36
theorem d_Ref_target_67 : decode (jm_cod M_Ref_target) 67 = .ok (.aload_n 0, 1) := dt_Ref_target 37
theorem d_Ref_target_68 : decode (jm_cod M_Ref_target) 68 = .ok (.getfield 124, 3) := dt_Ref_target 38
theorem d_Ref_target_71 : decode (jm_cod M_Ref_target) 71 = .ok (.iload 4, 2) := dt_Ref_target 39
theorem d_Ref_target_73 : decode (jm_cod M_Ref_target) 73 = .ok (.iaload, 1) := dt_Ref_target 40
theorem d_Ref_target_74 : decode (jm_cod M_Ref_target) 74 = .ok (.iload_n 1, 1) := dt_Ref_target 41
theorem d_Ref_target_75 : decode (jm_cod M_Ref_target) 75 = .ok (.if_icmp .ne 7, 3) := dt_Ref_target 42
theorem d_Ref_target_78 : decode (jm_cod M_Ref_target) 78 = .ok (.iconst 1, 1) := dt_Ref_target 43
theorem d_Ref_target_79 : decode (jm_cod M_Ref_target) 79 = .ok (.goto 4, 3) := dt_Ref_target 44
theorem d_Ref_target_82 : decode (jm_cod M_Ref_target) 82 = .ok (.iconst 0, 1) := dt_Ref_target 45
theorem d_Ref_target_83 : decode (jm_cod M_Ref_target) 83 = .ok (.iadd, 1) := dt_Ref_target 46
theorem d_Ref_target_84 : decode (jm_cod M_Ref_target) 84 = .ok (.istore_n 3, 1) := dt_Ref_target 47
theorem d_Ref_target_85 : decode (jm_cod M_Ref_target) 85 = .ok (.iinc 4 1, 3) := dt_Ref_target 48
theorem d_Ref_target_88 : decode (jm_cod M_Ref_target) 88 = .ok (.goto (-35), 3) := dt_Ref_target 49
theorem d_Ref_target_91 : decode (jm_cod M_Ref_target) 91 = .ok (.iconst 0, 1) := dt_Ref_target 50
theorem d_Ref_target_92 : decode (jm_cod M_Ref_target) 92 = .ok (.istore 4, 2) := dt_Ref_target 51
theorem d_Ref_target_94 : decode (jm_cod M_Ref_target) 94 = .ok (.iload 4, 2) := dt_Ref_target 52
theorem d_Ref_target_96 : decode (jm_cod M_Ref_target) 96 = .ok (.aload_n 0, 1) := dt_Ref_target 53
theorem d_Ref_target_97 : decode (jm_cod M_Ref_target) 97 = .ok (.getfield 529, 3) := dt_Ref_target 54
theorem d_Ref_target_100 : decode (jm_cod M_Ref_target) 100 = .ok (.if_icmp .ge 33, 3) := dt_Ref_target 55
theorem d_Ref_target_103 : decode (jm_cod M_Ref_target) 103 = .ok (.iload_n 2, 1) := dt_Ref_target 56
theorem d_Ref_target_104 : decode (jm_cod M_Ref_target) 104 = .ok (.iconst 1, 1) := dt_Ref_target 57
theorem d_Ref_target_105 : decode (jm_cod M_Ref_target) 105 = .ok (.if_icmp .ne 28, 3) := dt_Ref_target 58
theorem d_Ref_target_108 : decode (jm_cod M_Ref_target) 108 = .ok (.iload_n 3, 1) := dt_Ref_target 59
theorem d_Ref_target_109 : decode (jm_cod M_Ref_target) 109 = .ok (.aload_n 0, 1) := dt_Ref_target 60
theorem d_Ref_target_110 : decode (jm_cod M_Ref_target) 110 = .ok (.getfield 136, 3) := dt_Ref_target 61
theorem d_Ref_target_113 : decode (jm_cod M_Ref_target) 113 = .ok (.iload 4, 2) := dt_Ref_target 62
theorem d_Ref_target_115 : decode (jm_cod M_Ref_target) 115 = .ok (.iaload, 1) := dt_Ref_target 63
theorem d_Ref_target_116 : decode (jm_cod M_Ref_target) 116 = .ok (.iload_n 1, 1) := dt_Ref_target 64
theorem d_Ref_target_117 : decode (jm_cod M_Ref_target) 117 = .ok (.if_icmp .ne 7, 3) := dt_Ref_target 65
theorem d_Ref_target_120 : decode (jm_cod M_Ref_target) 120 = .ok (.iconst 1, 1) := dt_Ref_target 66
theorem d_Ref_target_121 : decode (jm_cod M_Ref_target) 121 = .ok (.goto 4, 3) := dt_Ref_target 67
theorem d_Ref_target_124 : decode (jm_cod M_Ref_target) 124 = .ok (.iconst 0, 1) := dt_Ref_target 68
theorem d_Ref_target_125 : decode (jm_cod M_Ref_target) 125 = .ok (.iadd, 1) := dt_Ref_target 69
theorem d_Ref_target_126 : decode (jm_cod M_Ref_target) 126 = .ok (.istore_n 3, 1) := dt_Ref_target 70
theorem d_Ref_target_127 : decode (jm_cod M_Ref_target) 127 = .ok (.iinc 4 1, 3) := dt_Ref_target 71
theorem d_Ref_target_130 : decode (jm_cod M_Ref_target) 130 = .ok (.goto (-36), 3) := dt_Ref_target 72
theorem d_Ref_target_133 : decode (jm_cod M_Ref_target) 133 = .ok (.iload_n 2, 1) := dt_Ref_target 73
theorem d_Ref_target_134 : decode (jm_cod M_Ref_target) 134 = .ok (.iconst 2, 1) := dt_Ref_target 74
theorem d_Ref_target_135 : decode (jm_cod M_Ref_target) 135 = .ok (.if_icmp .ge 7, 3) := dt_Ref_target 75
theorem d_Ref_target_138 : decode (jm_cod M_Ref_target) 138 = .ok (.iload_n 3, 1) := dt_Ref_target 76
theorem d_Ref_target_139 : decode (jm_cod M_Ref_target) 139 = .ok (.goto 35, 3) := dt_Ref_target 77
theorem d_Ref_target_142 : decode (jm_cod M_Ref_target) 142 = .ok (.iload_n 1, 1) := dt_Ref_target 78
theorem d_Ref_target_143 : decode (jm_cod M_Ref_target) 143 = .ok (.aload_n 0, 1) := dt_Ref_target 79
theorem d_Ref_target_144 : decode (jm_cod M_Ref_target) 144 = .ok (.getfield 294, 3) := dt_Ref_target 80
theorem d_Ref_target_147 : decode (jm_cod M_Ref_target) 147 = .ok (.if_icmp .ne 7, 3) := dt_Ref_target 81
theorem d_Ref_target_150 : decode (jm_cod M_Ref_target) 150 = .ok (.iconst 0, 1) := dt_Ref_target 82
theorem d_Ref_target_151 : decode (jm_cod M_Ref_target) 151 = .ok (.goto 23, 3) := dt_Ref_target 83
theorem d_Ref_target_154 : decode (jm_cod M_Ref_target) 154 = .ok (.iload_n 2, 1) := dt_Ref_target 84
theorem d_Ref_target_155 : decode (jm_cod M_Ref_target) 155 = .ok (.iconst 2, 1) := dt_Ref_target 85
theorem d_Ref_target_156 : decode (jm_cod M_Ref_target) 156 = .ok (.if_icmp .ne 12, 3) := dt_Ref_target 86
theorem d_Ref_target_159 : decode (jm_cod M_Ref_target) 159 = .ok (.aload_n 0, 1) := dt_Ref_target 87
theorem d_Ref_target_160 : decode (jm_cod M_Ref_target) 160 = .ok (.getfield 154, 3) := dt_Ref_target 88
theorem d_Ref_target_163 : decode (jm_cod M_Ref_target) 163 = .ok (.iload_n 1, 1) := dt_Ref_target 89
theorem d_Ref_target_164 : decode (jm_cod M_Ref_target) 164 = .ok (.iaload, 1) := dt_Ref_target 90
theorem d_Ref_target_165 : decode (jm_cod M_Ref_target) 165 = .ok (.goto 9, 3) := dt_Ref_target 91
theorem d_Ref_target_168 : decode (jm_cod M_Ref_target) 168 = .ok (.aload_n 0, 1) := dt_Ref_target 92
theorem d_Ref_target_169 : decode (jm_cod M_Ref_target) 169 = .ok (.getfield 181, 3) := dt_Ref_target 93
theorem d_Ref_target_172 : decode (jm_cod M_Ref_target) 172 = .ok (.iload_n 1, 1) := dt_Ref_target 94
theorem d_Ref_target_173 : decode (jm_cod M_Ref_target) 173 = .ok (.iaload, 1) := dt_Ref_target 95
theorem d_Ref_target_174 : decode (jm_cod M_Ref_target) 174 = .ok (.ireturn, 1) := dt_Ref_target 96
def tab_Ref_right : List (Nat × Instr × Nat) := [(0, .aload_n 0, 1), (1, .iload_n 1, 1), (2, .i2l, 1), (3, .lconst 0, 1), (4, .aload_n 0, 1), (5, .getfield 294, 3), (8, .i2l, 1), (9, .lconst 1, 1), (10, .lsub, 1), (11, .invokestatic 599, 3), (14, .ifCond .ne 7, 3), (17, .iconst 1, 1), (18, .goto 20, 3), (21, .iload_n 2, 1), (22, .i2l, 1), (23, .lconst 0, 1), (24, .ldc2_w 306, 3), (27, .invokestatic 599, 3), (30, .ifCond .ne 7, 3), (33, .iconst 2, 1), (34, .goto 4, 3), (37, .iconst 0, 1), (38, .putfield 303, 3), (41, .aload_n 0, 1), (42, .getfield 303, 3), (45, .ifCond .le 7, 3), (48, .iconst 0, 1), (49, .goto 14, 3), (52, .aload_n 0, 1), (53, .getfield 220, 3), (56, .bipush 64, 2), (58, .iload_n 1, 1), (59, .imul, 1), (60, .iload_n 2, 1), (61, .iadd, 1), (62, .iaload, 1), (63, .ireturn, 1)]
theorem dt_Ref_right (i : Nat) : decode (jm_cod M_Ref_right) (tab_Ref_right.getD i (0, .aload_n 0, 1)).1 = .ok ((tab_Ref_right.getD i (0, .aload_n 0, 1)).2.1, (tab_Ref_right.getD i (0, .aload_n 0, 1)).2.2) := j_tab (by decide +kernel) i
theorem d_Ref_right_0 : decode (jm_cod M_Ref_right) 0 = .ok (.aload_n 0, 1) := dt_Ref_right 0
theorem d_Ref_right_1 : decode (jm_cod M_Ref_right) 1 = .ok (.iload_n 1, 1) := dt_Ref_right 1
theorem d_Ref_right_2 : decode (jm_cod M_Ref_right) 2 = .ok (.i2l, 1) := dt_Ref_right 2
theorem d_Ref_right_3 : decode (jm_cod M_Ref_right) 3 = .ok (.lconst 0, 1) := dt_Ref_right 3
theorem d_Ref_right_4 : decode (jm_cod M_Ref_right) 4 = .ok (.aload_n 0, 1) := dt_Ref_right 4
theorem d_Ref_right_5 : decode (jm_cod M_Ref_right) 5 = .ok (.getfield 294, 3) := dt_Ref_right 5
theorem d_Ref_right_8 : decode (jm_cod M_Ref_right) 8 = .ok (.i2l, 1) := dt_Ref_right 6
theorem d_Ref_right_9 : decode (jm_cod M_Ref_right) 9 = .ok (.lconst 1, 1) := dt_Ref_right 7
theorem d_Ref_right_10 : decode (jm_cod M_Ref_right) 10 = .ok (.lsub, 1) := dt_Ref_right 8
theorem d_Ref_right_11 : decode (jm_cod M_Ref_right) 11 = .ok (.invokestatic 599, 3) := dt_Ref_right 9
theorem d_Ref_right_14 : decode (jm_cod M_Ref_right) 14 = .ok (.ifCond .ne 7, 3) := dt_Ref_right 10
theorem d_Ref_right_17 : decode (jm_cod M_Ref_right) 17 = .ok (.iconst 1, 1) := dt_Ref_right 11
theorem d_Ref_right_18 : decode (jm_cod M_Ref_right) 18 = .ok (.goto 20, 3) := dt_Ref_right 12
theorem d_Ref_right_21 : decode (jm_cod M_Ref_right) 21 = .ok (.iload_n 2, 1) := dt_Ref_right 13
theorem d_Ref_right_22 : decode (jm_cod M_Ref_right) 22 = .ok (.i2l, 1) := dt_Ref_right 14
theorem d_Ref_right_23 : decode (jm_cod M_Ref_right) 23 = .ok (.lconst 0, 1) := dt_Ref_right 15
theorem d_Ref_right_24 : decode (jm_cod M_Ref_right) 24 = .ok (.ldc2_w 306, 3) := dt_Ref_right 16
theorem d_Ref_right_27 : decode (jm_cod M_Ref_right) 27 = .ok (.invokestatic 599, 3) := dt_Ref_right 17
theorem d_Ref_right_30 : decode (jm_cod M_Ref_right) 30 = .ok (.ifCond .ne 7, 3) := dt_Ref_right 18
theorem d_Ref_right_33 : decode (jm_cod M_Ref_right) 33 = .ok (.iconst 2, 1) := dt_Ref_right 19
theorem d_Ref_right_34 : decode (jm_cod M_Ref_right) 34 = .ok (.goto 4, 3) := dt_Ref_right 20
theorem d_Ref_right_37 : decode (jm_cod M_Ref_right) 37 = .ok (.iconst 0, 1) := dt_Ref_right 21
theorem d_Ref_right_38 : decode (jm_cod M_Ref_right) 38 = .ok (.putfield 303, 3) := dt_Ref_right 22
theorem d_Ref_right_41 : decode (jm_cod M_Ref_right) 41 = .ok (.aload_n 0, 1) := dt_Ref_right 23
theorem d_Ref_right_42 : decode (jm_cod M_Ref_right) 42 = .ok (.getfield 303, 3) := dt_Ref_right 24
theorem d_Ref_right_45 : decode (jm_cod M_Ref_right) 45 = .ok (.ifCond .le 7, 3) := dt_Ref_right 25
theorem d_Ref_right_48 : decode (jm_cod M_Ref_right) 48 = .ok (.iconst 0, 1) := dt_Ref_right 26
theorem d_Ref_right_49 : decode (jm_cod M_Ref_right) 49 = .ok (.goto 14, 3) := dt_Ref_right 27
theorem d_Ref_right_52 : decode (jm_cod M_Ref_right) 52 = .ok (.aload_n 0, 1) := dt_Ref_right 28
theorem d_Ref_right_53 : decode (jm_cod M_Ref_right) 53 = .ok (.getfield 220, 3) := dt_Ref_right 29
theorem d_Ref_right_56 : decode (jm_cod M_Ref_right) 56 = .ok (.bipush 64, 2) := dt_Ref_right 30
theorem d_Ref_right_58 : decode (jm_cod M_Ref_right) 58 = .ok (.iload_n 1, 1) := dt_Ref_right 31
theorem d_Ref_right_59 : decode (jm_cod M_Ref_right) 59 = .ok (.imul, 1) := dt_Ref_right 32
theorem d_Ref_right_60 : decode (jm_cod M_Ref_right) 60 = .ok (.iload_n 2, 1) := dt_Ref_right 33
theorem d_Ref_right_61 : decode (jm_cod M_Ref_right) 61 = .ok (.iadd, 1) := dt_Ref_right 34
theorem d_Ref_right_62 : decode (jm_cod M_Ref_right) 62 = .ok (.iaload, 1) := dt_Ref_right 35
theorem d_Ref_right_63 : decode (jm_cod M_Ref_right) 63 = .ok (.ireturn, 1) := dt_Ref_right 36
def tab_Ref_told : List (Nat × Instr × Nat) := [(0, .aload_n 0, 1), (1, .iconst 0, 1), (2, .putfield 303, 3), (5, .iload_n 1, 1), (6, .tableswitch 77 0 6 #[42, 47, 52, 57, 62, 67, 72], 42), (48, .aload_n 0, 1), (49, .getfield 348, 3), (52, .ireturn, 1), (53, .aload_n 0, 1), (54, .getfield 337, 3), (57, .ireturn, 1), (58, .aload_n 0, 1), (59, .invokevirtual 605, 3), (62, .ireturn, 1), (63, .aload_n 0, 1), (64, .getfield 290, 3), (67, .ireturn, 1), (68, .aload_n 0, 1), (69, .getfield 294, 3), (72, .ireturn, 1), (73, .aload_n 0, 1), (74, .getfield 297, 3), (77, .ireturn, 1), (78, .aload_n 0, 1), (79, .getfield 532, 3), (82, .ireturn, 1), (83, .iconst (-1), 1), (84, .ireturn, 1)]
theorem dt_Ref_told (i : Nat) : decode (jm_cod M_Ref_told) (tab_Ref_told.getD i (0, .aload_n 0, 1)).1 = .ok ((tab_Ref_told.getD i (0, .aload_n 0, 1)).2.1, (tab_Ref_told.getD i (0, .aload_n 0, 1)).2.2) := j_tab (by decide +kernel) i
theorem d_Ref_told_0 : decode (jm_cod M_Ref_told) 0 = .ok (.aload_n 0, 1) := dt_Ref_told 0
theorem d_Ref_told_1 : decode (jm_cod M_Ref_told) 1 = .ok (.iconst 0, 1) := dt_Ref_told 1
theorem d_Ref_told_2 : decode (jm_cod M_Ref_told) 2 = .ok (.putfield 303, 3) := dt_Ref_told 2
theorem d_Ref_told_5 : decode (jm_cod M_Ref_told) 5 = .ok (.iload_n 1, 1) := dt_Ref_told 3
theorem d_Ref_told_6 : decode (jm_cod M_Ref_told) 6 = .ok (.tableswitch 77 0 6 #[42, 47, 52, 57, 62, 67, 72], 42) := dt_Ref_told 4
theorem d_Ref_told_48 : decode (jm_cod M_Ref_told) 48 = .ok (.aload_n 0, 1) := dt_Ref_told 5
theorem d_Ref_told_49 : decode (jm_cod M_Ref_told) 49 = .ok (.getfield 348, 3) := dt_Ref_told 6
theorem d_Ref_told_52 : decode (jm_cod M_Ref_told) 52 = .ok (.ireturn, 1) := dt_Ref_told 7
theorem d_Ref_told_53 : decode (jm_cod M_Ref_told) 53 = .ok (.aload_n 0, 1) := dt_Ref_told 8
theorem d_Ref_told_54 : decode (jm_cod M_Ref_told) 54 = .ok (.getfield 337, 3) := dt_Ref_told 9
theorem d_Ref_told_57 : decode (jm_cod M_Ref_told) 57 = .ok (.ireturn, 1) := dt_Ref_told 10
theorem d_Ref_told_58 : decode (jm_cod M_Ref_told) 58 = .ok (.aload_n 0, 1) := dt_Ref_told 11
theorem d_Ref_told_59 : decode (jm_cod M_Ref_told) 59 = .ok (.invokevirtual 605, 3) := dt_Ref_told 12
theorem d_Ref_told_62 : decode (jm_cod M_Ref_told) 62 = .ok (.ireturn, 1) := dt_Ref_told 13
theorem d_Ref_told_63 : decode (jm_cod M_Ref_told) 63 = .ok (.aload_n 0, 1) := dt_Ref_told 14
theorem d_Ref_told_64 : decode (jm_cod M_Ref_told) 64 = .ok (.getfield 290, 3) := dt_Ref_told 15
theorem d_Ref_told_67 : decode (jm_cod M_Ref_told) 67 = .ok (.ireturn, 1) := dt_Ref_told 16
theorem d_Ref_told_68 : decode (jm_cod M_Ref_told) 68 = .ok (.aload_n 0, 1) := dt_Ref_told 17
theorem d_Ref_told_69 : decode (jm_cod M_Ref_told) 69 = .ok (.getfield 294, 3) := dt_Ref_told 18
theorem d_Ref_told_72 : decode (jm_cod M_Ref_told) 72 = .ok (.ireturn, 1) := dt_Ref_told 19
theorem d_Ref_told_73 : decode (jm_cod M_Ref_told) 73 = .ok (.aload_n 0, 1) := dt_Ref_told 20
theorem d_Ref_told_74 : decode (jm_cod M_Ref_told) 74 = .ok (.getfield 297, 3) := dt_Ref_told 21
theorem d_Ref_told_77 : decode (jm_cod M_Ref_told) 77 = .ok (.ireturn, 1) := dt_Ref_told 22
theorem d_Ref_told_78 : decode (jm_cod M_Ref_told) 78 = .ok (.aload_n 0, 1) := dt_Ref_told 23
theorem d_Ref_told_79 : decode (jm_cod M_Ref_told) 79 = .ok (.getfield 532, 3) := dt_Ref_told 24
theorem d_Ref_told_82 : decode (jm_cod M_Ref_told) 82 = .ok (.ireturn, 1) := dt_Ref_told 25
theorem d_Ref_told_83 : decode (jm_cod M_Ref_told) 83 = .ok (.iconst (-1), 1) := dt_Ref_told 26
theorem d_Ref_told_84 : decode (jm_cod M_Ref_told) 84 = .ok (.ireturn, 1) := dt_Ref_told 27
def tab_Ref_see : List (Nat × Instr × Nat) := [(0, .aload_n 0, 1), (1, .iload_n 1, 1), (2, .invokestatic 637, 3), (5, .ifCond .eq 15, 3), (8, .iload_n 2, 1), (9, .i2l, 1), (10, .lconst 0, 1), (11, .ldc2_w 609, 3), (14, .invokestatic 599, 3), (17, .ifCond .ne 7, 3), (20, .iconst 1, 1), (21, .goto 33, 3), (24, .iload_n 3, 1), (25, .i2l, 1), (26, .lconst 0, 1), (27, .ldc2_w 312, 3), (30, .invokestatic 599, 3), (33, .ifCond .eq 16, 3), (36, .iload 6, 2), (38, .i2l, 1), (39, .lconst 0, 1), (40, .ldc2_w 640, 3), (43, .invokestatic 599, 3), (46, .ifCond .ne 7, 3), (49, .iconst 2, 1), (50, .goto 4, 3), (53, .iconst 0, 1), (54, .putfield 303, 3), (57, .aload_n 0, 1), (58, .getfield 303, 3), (61, .ifCond .le 4, 3), (64, .return_, 1), (65, .iconst 5, 1), (66, .iload_n 1, 1), (67, .imul, 1), (68, .iload_n 2, 1), (69, .iadd, 1), (70, .istore 7, 2), (72, .aload_n 0, 1), (73, .getfield 274, 3), (76, .iload 7, 2), (78, .iload_n 3, 1), (79, .iconst 2, 1), (80, .irem, 1), (81, .iconst 1, 1), (82, .if_icmp .ne 7, 3), (85, .iconst 1, 1), (86, .goto 4, 3), (89, .iconst 0, 1), (90, .bastore, 1), (91, .aload_n 0, 1), (92, .getfield 277, 3), (95, .iload 7, 2), (97, .iload_n 3, 1), (98, .iconst 1, 1), (99, .if_icmp .le 7, 3), (102, .iconst 1, 1), (103, .goto 4, 3), (106, .iconst 0, 1), (107, .bastore, 1), (108, .aload_n 0, 1), (109, .getfield 280, 3), (112, .iload 7, 2), (114, .aload_n 0, 1), (115, .getfield 274, 3), (118, .iload 7, 2), (120, .baload, 1), (121, .ifCond .eq 8, 3), (124, .lload 4, 2), (126, .goto 4, 3), (129, .lconst 0, 1), (130, .lastore, 1), (131, .aload_n 0, 1), (132, .getfield 283, 3), (135, .iload 7, 2), (137, .aload_n 0, 1), (138, .getfield 274, 3), (141, .iload 7, 2), (143, .baload, 1), (144, .ifCond .eq 8, 3), (147, .iload 6, 2), (149, .goto 4, 3), (152, .iconst 0, 1), (153, .iastore, 1), (154, .return_, 1)]
theorem dt_Ref_see (i : Nat) : decode (jm_cod M_Ref_see) (tab_Ref_see.getD i (0, .aload_n 0, 1)).1 = .ok ((tab_Ref_see.getD i (0, .aload_n 0, 1)).2.1, (tab_Ref_see.getD i (0, .aload_n 0, 1)).2.2) := j_tab (by decide +kernel) i
theorem d_Ref_see_0 : decode (jm_cod M_Ref_see) 0 = .ok (.aload_n 0, 1) := dt_Ref_see 0
theorem d_Ref_see_1 : decode (jm_cod M_Ref_see) 1 = .ok (.iload_n 1, 1) := dt_Ref_see 1
theorem d_Ref_see_2 : decode (jm_cod M_Ref_see) 2 = .ok (.invokestatic 637, 3) := dt_Ref_see 2
theorem d_Ref_see_5 : decode (jm_cod M_Ref_see) 5 = .ok (.ifCond .eq 15, 3) := dt_Ref_see 3
theorem d_Ref_see_8 : decode (jm_cod M_Ref_see) 8 = .ok (.iload_n 2, 1) := dt_Ref_see 4
theorem d_Ref_see_9 : decode (jm_cod M_Ref_see) 9 = .ok (.i2l, 1) := dt_Ref_see 5
theorem d_Ref_see_10 : decode (jm_cod M_Ref_see) 10 = .ok (.lconst 0, 1) := dt_Ref_see 6
theorem d_Ref_see_11 : decode (jm_cod M_Ref_see) 11 = .ok (.ldc2_w 609, 3) := dt_Ref_see 7
theorem d_Ref_see_14 : decode (jm_cod M_Ref_see) 14 = .ok (.invokestatic 599, 3) := dt_Ref_see 8
theorem d_Ref_see_17 : decode (jm_cod M_Ref_see) 17 = .ok (.ifCond .ne 7, 3) := dt_Ref_see 9
theorem d_Ref_see_20 : decode (jm_cod M_Ref_see) 20 = .ok (.iconst 1, 1) := dt_Ref_see 10
theorem d_Ref_see_21 : decode (jm_cod M_Ref_see) 21 = .ok (.goto 33, 3) := dt_Ref_see 11
theorem d_Ref_see_24 : decode (jm_cod M_Ref_see) 24 = .ok (.iload_n 3, 1) := dt_Ref_see 12
theorem d_Ref_see_25 : decode (jm_cod M_Ref_see) 25 = .ok (.i2l, 1) := dt_Ref_see 13
theorem d_Ref_see_26 : decode (jm_cod M_Ref_see) 26 = .ok (.lconst 0, 1) := dt_Ref_see 14
theorem d_Ref_see_27 : decode (jm_cod M_Ref_see) 27 = .ok (.ldc2_w 312, 3) := dt_Ref_see 15
theorem d_Ref_see_30 : decode (jm_cod M_Ref_see) 30 = .ok (.invokestatic 599, 3) := dt_Ref_see 16
theorem d_Ref_see_33 : decode (jm_cod M_Ref_see) 33 = .ok (.ifCond .eq 16, 3) := dt_Ref_see 17
theorem d_Ref_see_36 : decode (jm_cod M_Ref_see) 36 = .ok (.iload 6, 2) := dt_Ref_see 18
theorem d_Ref_see_38 : decode (jm_cod M_Ref_see) 38 = .ok (.i2l, 1) := dt_Ref_see 19
theorem d_Ref_see_39 : decode (jm_cod M_Ref_see) 39 = .ok (.lconst 0, 1) := dt_Ref_see 20
theorem d_Ref_see_40 : decode (jm_cod M_Ref_see) 40 = .ok (.ldc2_w 640, 3) := dt_Ref_see 21
theorem d_Ref_see_43 : decode (jm_cod M_Ref_see) 43 = .ok (.invokestatic 599, 3) := dt_Ref_see 22
theorem d_Ref_see_46 : decode (jm_cod M_Ref_see) 46 = .ok (.ifCond .ne 7, 3) := dt_Ref_see 23
theorem d_Ref_see_49 : decode (jm_cod M_Ref_see) 49 = .ok (.iconst 2, 1) := dt_Ref_see 24
theorem d_Ref_see_50 : decode (jm_cod M_Ref_see) 50 = .ok (.goto 4, 3) := dt_Ref_see 25
theorem d_Ref_see_53 : decode (jm_cod M_Ref_see) 53 = .ok (.iconst 0, 1) := dt_Ref_see 26
theorem d_Ref_see_54 : decode (jm_cod M_Ref_see) 54 = .ok (.putfield 303, 3) := dt_Ref_see 27
theorem d_Ref_see_57 : decode (jm_cod M_Ref_see) 57 = .ok (.aload_n 0, 1) := dt_Ref_see 28
theorem d_Ref_see_58 : decode (jm_cod M_Ref_see) 58 = .ok (.getfield 303, 3) := dt_Ref_see 29
theorem d_Ref_see_61 : decode (jm_cod M_Ref_see) 61 = .ok (.ifCond .le 4, 3) := dt_Ref_see 30
theorem d_Ref_see_64 : decode (jm_cod M_Ref_see) 64 = .ok (.return_, 1) := dt_Ref_see 31
theorem d_Ref_see_65 : decode (jm_cod M_Ref_see) 65 = .ok (.iconst 5, 1) := dt_Ref_see 32
theorem d_Ref_see_66 : decode (jm_cod M_Ref_see) 66 = .ok (.iload_n 1, 1) := dt_Ref_see 33
theorem d_Ref_see_67 : decode (jm_cod M_Ref_see) 67 = .ok (.imul, 1) := dt_Ref_see 34
theorem d_Ref_see_68 : decode (jm_cod M_Ref_see) 68 = .ok (.iload_n 2, 1) := dt_Ref_see 35
theorem d_Ref_see_69 : decode (jm_cod M_Ref_see) 69 = .ok (.iadd, 1) := dt_Ref_see 36
theorem d_Ref_see_70 : decode (jm_cod M_Ref_see) 70 = .ok (.istore 7, 2) := dt_Ref_see 37
theorem d_Ref_see_72 : decode (jm_cod M_Ref_see) 72 = .ok (.aload_n 0, 1) := dt_Ref_see 38
theorem d_Ref_see_73 : decode (jm_cod M_Ref_see) 73 = .ok (.getfield 274, 3) := dt_Ref_see 39
theorem d_Ref_see_76 : decode (jm_cod M_Ref_see) 76 = .ok (.iload 7, 2) := dt_Ref_see 40
theorem d_Ref_see_78 : decode (jm_cod M_Ref_see) 78 = .ok (.iload_n 3, 1) := dt_Ref_see 41
theorem d_Ref_see_79 : decode (jm_cod M_Ref_see) 79 = .ok (.iconst 2, 1) := dt_Ref_see 42
theorem d_Ref_see_80 : decode (jm_cod M_Ref_see) 80 = .ok (.irem, 1) := dt_Ref_see 43
theorem d_Ref_see_81 : decode (jm_cod M_Ref_see) 81 = .ok (.iconst 1, 1) := dt_Ref_see 44
theorem d_Ref_see_82 : decode (jm_cod M_Ref_see) 82 = .ok (.if_icmp .ne 7, 3) := dt_Ref_see 45
theorem d_Ref_see_85 : decode (jm_cod M_Ref_see) 85 = .ok (.iconst 1, 1) := dt_Ref_see 46
theorem d_Ref_see_86 : decode (jm_cod M_Ref_see) 86 = .ok (.goto 4, 3) := dt_Ref_see 47
theorem d_Ref_see_89 : decode (jm_cod M_Ref_see) 89 = .ok (.iconst 0, 1) := dt_Ref_see 48
theorem d_Ref_see_90 : decode (jm_cod M_Ref_see) 90 = .ok (.bastore, 1) := dt_Ref_see 49
theorem d_Ref_see_91 : decode (jm_cod M_Ref_see) 91 = .ok (.aload_n 0, 1) := dt_Ref_see 50
theorem d_Ref_see_92 : decode (jm_cod M_Ref_see) 92 = .ok (.getfield 277, 3) := dt_Ref_see 51
theorem d_Ref_see_95 : decode (jm_cod M_Ref_see) 95 = .ok (.iload 7, 2) := dt_Ref_see 52
theorem d_Ref_see_97 : decode (jm_cod M_Ref_see) 97 = .ok (.iload_n 3, 1) := dt_Ref_see 53
theorem d_Ref_see_98 : decode (jm_cod M_Ref_see) 98 = .ok (.iconst 1, 1) := dt_Ref_see 54
theorem d_Ref_see_99 : decode (jm_cod M_Ref_see) 99 = .ok (.if_icmp .le 7, 3) := dt_Ref_see 55
theorem d_Ref_see_102 : decode (jm_cod M_Ref_see) 102 = .ok (.iconst 1, 1) := dt_Ref_see 56
theorem d_Ref_see_103 : decode (jm_cod M_Ref_see) 103 = .ok (.goto 4, 3) := dt_Ref_see 57
theorem d_Ref_see_106 : decode (jm_cod M_Ref_see) 106 = .ok (.iconst 0, 1) := dt_Ref_see 58
theorem d_Ref_see_107 : decode (jm_cod M_Ref_see) 107 = .ok (.bastore, 1) := dt_Ref_see 59
theorem d_Ref_see_108 : decode (jm_cod M_Ref_see) 108 = .ok (.aload_n 0, 1) := dt_Ref_see 60
theorem d_Ref_see_109 : decode (jm_cod M_Ref_see) 109 = .ok (.getfield 280, 3) := dt_Ref_see 61
theorem d_Ref_see_112 : decode (jm_cod M_Ref_see) 112 = .ok (.iload 7, 2) := dt_Ref_see 62
theorem d_Ref_see_114 : decode (jm_cod M_Ref_see) 114 = .ok (.aload_n 0, 1) := dt_Ref_see 63
theorem d_Ref_see_115 : decode (jm_cod M_Ref_see) 115 = .ok (.getfield 274, 3) := dt_Ref_see 64
theorem d_Ref_see_118 : decode (jm_cod M_Ref_see) 118 = .ok (.iload 7, 2) := dt_Ref_see 65
theorem d_Ref_see_120 : decode (jm_cod M_Ref_see) 120 = .ok (.baload, 1) := dt_Ref_see 66
theorem d_Ref_see_121 : decode (jm_cod M_Ref_see) 121 = .ok (.ifCond .eq 8, 3) := dt_Ref_see 67
theorem d_Ref_see_124 : decode (jm_cod M_Ref_see) 124 = .ok (.lload 4, 2) := dt_Ref_see 68
theorem d_Ref_see_126 : decode (jm_cod M_Ref_see) 126 = .ok (.goto 4, 3) := dt_Ref_see 69
theorem d_Ref_see_129 : decode (jm_cod M_Ref_see) 129 = .ok (.lconst 0, 1) := dt_Ref_see 70
theorem d_Ref_see_130 : decode (jm_cod M_Ref_see) 130 = .ok (.lastore, 1) := dt_Ref_see 71
theorem d_Ref_see_131 : decode (jm_cod M_Ref_see) 131 = .ok (.aload_n 0, 1) := dt_Ref_see 72
theorem d_Ref_see_132 : decode (jm_cod M_Ref_see) 132 = .ok (.getfield 283, 3) := dt_Ref_see 73
theorem d_Ref_see_135 : decode (jm_cod M_Ref_see) 135 = .ok (.iload 7, 2) := dt_Ref_see 74
theorem d_Ref_see_137 : decode (jm_cod M_Ref_see) 137 = .ok (.aload_n 0, 1) := dt_Ref_see 75
theorem d_Ref_see_138 : decode (jm_cod M_Ref_see) 138 = .ok (.getfield 274, 3) := dt_Ref_see 76
theorem d_Ref_see_141 : decode (jm_cod M_Ref_see) 141 = .ok (.iload 7, 2) := dt_Ref_see 77
theorem d_Ref_see_143 : decode (jm_cod M_Ref_see) 143 = .ok (.baload, 1) := dt_Ref_see 78
theorem d_Ref_see_144 : decode (jm_cod M_Ref_see) 144 = .ok (.ifCond .eq 8, 3) := dt_Ref_see 79
theorem d_Ref_see_147 : decode (jm_cod M_Ref_see) 147 = .ok (.iload 6, 2) := dt_Ref_see 80
theorem d_Ref_see_149 : decode (jm_cod M_Ref_see) 149 = .ok (.goto 4, 3) := dt_Ref_see 81
theorem d_Ref_see_152 : decode (jm_cod M_Ref_see) 152 = .ok (.iconst 0, 1) := dt_Ref_see 82
theorem d_Ref_see_153 : decode (jm_cod M_Ref_see) 153 = .ok (.iastore, 1) := dt_Ref_see 83
theorem d_Ref_see_154 : decode (jm_cod M_Ref_see) 154 = .ok (.return_, 1) := dt_Ref_see 84
def tab_Ref_isWatcher : List (Nat × Instr × Nat) := [(0, .iload_n 0, 1), (1, .i2l, 1), (2, .lconst 0, 1), (3, .lconst 1, 1), (4, .invokestatic 599, 3), (7, .ireturn, 1)]
theorem dt_Ref_isWatcher (i : Nat) : decode (jm_cod M_Ref_isWatcher) (tab_Ref_isWatcher.getD i (0, .iload_n 0, 1)).1 = .ok ((tab_Ref_isWatcher.getD i (0, .iload_n 0, 1)).2.1, (tab_Ref_isWatcher.getD i (0, .iload_n 0, 1)).2.2) := j_tab (by decide +kernel) i
theorem d_Ref_isWatcher_0 : decode (jm_cod M_Ref_isWatcher) 0 = .ok (.iload_n 0, 1) := dt_Ref_isWatcher 0
theorem d_Ref_isWatcher_1 : decode (jm_cod M_Ref_isWatcher) 1 = .ok (.i2l, 1) := dt_Ref_isWatcher 1
theorem d_Ref_isWatcher_2 : decode (jm_cod M_Ref_isWatcher) 2 = .ok (.lconst 0, 1) := dt_Ref_isWatcher 2
theorem d_Ref_isWatcher_3 : decode (jm_cod M_Ref_isWatcher) 3 = .ok (.lconst 1, 1) := dt_Ref_isWatcher 3
theorem d_Ref_isWatcher_4 : decode (jm_cod M_Ref_isWatcher) 4 = .ok (.invokestatic 599, 3) := dt_Ref_isWatcher 4
theorem d_Ref_isWatcher_7 : decode (jm_cod M_Ref_isWatcher) 7 = .ok (.ireturn, 1) := dt_Ref_isWatcher 5
def tab_Ref_judge : List (Nat × Instr × Nat) := [(0, .aload_n 0, 1), (1, .iload_n 1, 1), (2, .invokestatic 637, 3), (5, .ifCond .eq 7, 3), (8, .iconst 0, 1), (9, .goto 4, 3), (12, .iconst 1, 1), (13, .putfield 303, 3), (16, .aload_n 0, 1), (17, .getfield 303, 3), (20, .ifCond .le 5, 3), (23, .iconst 0, 1), (24, .ireturn, 1), (25, .aload_n 0, 1), (26, .bipush 8, 2), (28, .iload_n 1, 1), (29, .iadd, 1), (30, .iconst 5, 1), (31, .iload_n 1, 1), (32, .imul, 1), (33, .iconst 1, 1), (34, .invokevirtual 587, 3), (37, .aload_n 0, 1), (38, .iload_n 1, 1), (39, .invokevirtual 642, 3), (42, .aload_n 0, 1), (43, .getfield 238, 3), (46, .bipush 8, 2), (48, .iload_n 1, 1), (49, .iadd, 1), (50, .iaload, 1), (51, .ireturn, 1)]
theorem dt_Ref_judge (i : Nat) : decode (jm_cod M_Ref_judge) (tab_Ref_judge.getD i (0, .aload_n 0, 1)).1 = .ok ((tab_Ref_judge.getD i (0, .aload_n 0, 1)).2.1, (tab_Ref_judge.getD i (0, .aload_n 0, 1)).2.2) := j_tab (by decide +kernel) i
theorem d_Ref_judge_0 : decode (jm_cod M_Ref_judge) 0 = .ok (.aload_n 0, 1) := dt_Ref_judge 0
theorem d_Ref_judge_1 : decode (jm_cod M_Ref_judge) 1 = .ok (.iload_n 1, 1) := dt_Ref_judge 1
theorem d_Ref_judge_2 : decode (jm_cod M_Ref_judge) 2 = .ok (.invokestatic 637, 3) := dt_Ref_judge 2
theorem d_Ref_judge_5 : decode (jm_cod M_Ref_judge) 5 = .ok (.ifCond .eq 7, 3) := dt_Ref_judge 3
theorem d_Ref_judge_8 : decode (jm_cod M_Ref_judge) 8 = .ok (.iconst 0, 1) := dt_Ref_judge 4
theorem d_Ref_judge_9 : decode (jm_cod M_Ref_judge) 9 = .ok (.goto 4, 3) := dt_Ref_judge 5
theorem d_Ref_judge_12 : decode (jm_cod M_Ref_judge) 12 = .ok (.iconst 1, 1) := dt_Ref_judge 6
theorem d_Ref_judge_13 : decode (jm_cod M_Ref_judge) 13 = .ok (.putfield 303, 3) := dt_Ref_judge 7
theorem d_Ref_judge_16 : decode (jm_cod M_Ref_judge) 16 = .ok (.aload_n 0, 1) := dt_Ref_judge 8
theorem d_Ref_judge_17 : decode (jm_cod M_Ref_judge) 17 = .ok (.getfield 303, 3) := dt_Ref_judge 9
theorem d_Ref_judge_20 : decode (jm_cod M_Ref_judge) 20 = .ok (.ifCond .le 5, 3) := dt_Ref_judge 10
theorem d_Ref_judge_23 : decode (jm_cod M_Ref_judge) 23 = .ok (.iconst 0, 1) := dt_Ref_judge 11
theorem d_Ref_judge_24 : decode (jm_cod M_Ref_judge) 24 = .ok (.ireturn, 1) := dt_Ref_judge 12
theorem d_Ref_judge_25 : decode (jm_cod M_Ref_judge) 25 = .ok (.aload_n 0, 1) := dt_Ref_judge 13
theorem d_Ref_judge_26 : decode (jm_cod M_Ref_judge) 26 = .ok (.bipush 8, 2) := dt_Ref_judge 14
theorem d_Ref_judge_28 : decode (jm_cod M_Ref_judge) 28 = .ok (.iload_n 1, 1) := dt_Ref_judge 15
theorem d_Ref_judge_29 : decode (jm_cod M_Ref_judge) 29 = .ok (.iadd, 1) := dt_Ref_judge 16
theorem d_Ref_judge_30 : decode (jm_cod M_Ref_judge) 30 = .ok (.iconst 5, 1) := dt_Ref_judge 17
theorem d_Ref_judge_31 : decode (jm_cod M_Ref_judge) 31 = .ok (.iload_n 1, 1) := dt_Ref_judge 18
theorem d_Ref_judge_32 : decode (jm_cod M_Ref_judge) 32 = .ok (.imul, 1) := dt_Ref_judge 19
theorem d_Ref_judge_33 : decode (jm_cod M_Ref_judge) 33 = .ok (.iconst 1, 1) := dt_Ref_judge 20
theorem d_Ref_judge_34 : decode (jm_cod M_Ref_judge) 34 = .ok (.invokevirtual 587, 3) := dt_Ref_judge 21
theorem d_Ref_judge_37 : decode (jm_cod M_Ref_judge) 37 = .ok (.aload_n 0, 1) := dt_Ref_judge 22
theorem d_Ref_judge_38 : decode (jm_cod M_Ref_judge) 38 = .ok (.iload_n 1, 1) := dt_Ref_judge 23
theorem d_Ref_judge_39 : decode (jm_cod M_Ref_judge) 39 = .ok (.invokevirtual 642, 3) := dt_Ref_judge 24
theorem d_Ref_judge_42 : decode (jm_cod M_Ref_judge) 42 = .ok (.aload_n 0, 1) := dt_Ref_judge 25
theorem d_Ref_judge_43 : decode (jm_cod M_Ref_judge) 43 = .ok (.getfield 238, 3) := dt_Ref_judge 26
theorem d_Ref_judge_46 : decode (jm_cod M_Ref_judge) 46 = .ok (.bipush 8, 2) := dt_Ref_judge 27
theorem d_Ref_judge_48 : decode (jm_cod M_Ref_judge) 48 = .ok (.iload_n 1, 1) := dt_Ref_judge 28
theorem d_Ref_judge_49 : decode (jm_cod M_Ref_judge) 49 = .ok (.iadd, 1) := dt_Ref_judge 29
theorem d_Ref_judge_50 : decode (jm_cod M_Ref_judge) 50 = .ok (.iaload, 1) := dt_Ref_judge 30
theorem d_Ref_judge_51 : decode (jm_cod M_Ref_judge) 51 = .ok (.ireturn, 1) := dt_Ref_judge 31
def tab_Ref_watched : List (Nat × Instr × Nat) := [(0, .aload_n 0, 1), (1, .iload_n 1, 1), (2, .invokestatic 637, 3), (5, .ifCond .ne 7, 3), (8, .iconst 1, 1), (9, .goto 20, 3), (12, .iload_n 2, 1), (13, .i2l, 1), (14, .lconst 0, 1), (15, .ldc2_w 645, 3), (18, .invokestatic 599, 3), (21, .ifCond .ne 7, 3), (24, .iconst 2, 1), (25, .goto 4, 3), (28, .iconst 0, 1), (29, .putfield 303, 3), (32, .aload_n 0, 1), (33, .getfield 303, 3), (36, .ifCond .le 5, 3), (39, .iconst 0, 1), (40, .ireturn, 1), (41, .bipush 8, 2), (43, .iload_n 1, 1), (44, .iadd, 1), (45, .istore_n 3, 1), (46, .iload_n 2, 1), (47, .ifCond .ne 12, 3), (50, .aload_n 0, 1), (51, .getfield 238, 3), (54, .iload_n 3, 1), (55, .iaload, 1), (56, .goto 65, 3), (59, .iload_n 2, 1), (60, .iconst 1, 1), (61, .if_icmp .ne 12, 3), (64, .aload_n 0, 1), (65, .getfield 241, 3), (68, .iload_n 3, 1), (69, .iaload, 1), (70, .goto 51, 3), (73, .iload_n 2, 1), (74, .iconst 2, 1), (75, .if_icmp .ne 12, 3), (78, .aload_n 0, 1), (79, .getfield 244, 3), (82, .iload_n 3, 1), (83, .iaload, 1), (84, .goto 37, 3), (87, .iload_n 2, 1), (88, .iconst 3, 1), (89, .if_icmp .ne 12, 3), (92, .aload_n 0, 1), (93, .getfield 235, 3), (96, .iload_n 3, 1), (97, .iaload, 1), (98, .goto 23, 3), (101, .iload_n 2, 1), (102, .iconst 4, 1), (103, .if_icmp .ne 12, 3), (106, .aload_n 0, 1), (107, .getfield 247, 3), (110, .iload_n 3, 1), (111, .iaload, 1), (112, .goto 9, 3), (115, .aload_n 0, 1), (116, .getfield 250, 3), (119, .iload_n 3, 1), (120, .iaload, 1), (121, .ireturn, 1)]
theorem dt_Ref_watched (i : Nat) : decode (jm_cod M_Ref_watched) (tab_Ref_watched.getD i (0, .aload_n 0, 1)).1 = .ok ((tab_Ref_watched.getD i (0, .aload_n 0, 1)).2.1, (tab_Ref_watched.getD i (0, .aload_n 0, 1)).2.2) := j_tab (by decide +kernel) i
theorem d_Ref_watched_0 : decode (jm_cod M_Ref_watched) 0 = .ok (.aload_n 0, 1) := dt_Ref_watched 0
theorem d_Ref_watched_1 : decode (jm_cod M_Ref_watched) 1 = .ok (.iload_n 1, 1) := dt_Ref_watched 1
theorem d_Ref_watched_2 : decode (jm_cod M_Ref_watched) 2 = .ok (.invokestatic 637, 3) := dt_Ref_watched 2
theorem d_Ref_watched_5 : decode (jm_cod M_Ref_watched) 5 = .ok (.ifCond .ne 7, 3) := dt_Ref_watched 3
theorem d_Ref_watched_8 : decode (jm_cod M_Ref_watched) 8 = .ok (.iconst 1, 1) := dt_Ref_watched 4
theorem d_Ref_watched_9 : decode (jm_cod M_Ref_watched) 9 = .ok (.goto 20, 3) := dt_Ref_watched 5
theorem d_Ref_watched_12 : decode (jm_cod M_Ref_watched) 12 = .ok (.iload_n 2, 1) := dt_Ref_watched 6
theorem d_Ref_watched_13 : decode (jm_cod M_Ref_watched) 13 = .ok (.i2l, 1) := dt_Ref_watched 7
theorem d_Ref_watched_14 : decode (jm_cod M_Ref_watched) 14 = .ok (.lconst 0, 1) := dt_Ref_watched 8
theorem d_Ref_watched_15 : decode (jm_cod M_Ref_watched) 15 = .ok (.ldc2_w 645, 3) := dt_Ref_watched 9
theorem d_Ref_watched_18 : decode (jm_cod M_Ref_watched) 18 = .ok (.invokestatic 599, 3) := dt_Ref_watched 10
theorem d_Ref_watched_21 : decode (jm_cod M_Ref_watched) 21 = .ok (.ifCond .ne 7, 3) := dt_Ref_watched 11
theorem d_Ref_watched_24 : decode (jm_cod M_Ref_watched) 24 = .ok (.iconst 2, 1) := dt_Ref_watched 12
theorem d_Ref_watched_25 : decode (jm_cod M_Ref_watched) 25 = .ok (.goto 4, 3) := dt_Ref_watched 13
theorem d_Ref_watched_28 : decode (jm_cod M_Ref_watched) 28 = .ok (.iconst 0, 1) := dt_Ref_watched 14
theorem d_Ref_watched_29 : decode (jm_cod M_Ref_watched) 29 = .ok (.putfield 303, 3) := dt_Ref_watched 15
theorem d_Ref_watched_32 : decode (jm_cod M_Ref_watched) 32 = .ok (.aload_n 0, 1) := dt_Ref_watched 16
theorem d_Ref_watched_33 : decode (jm_cod M_Ref_watched) 33 = .ok (.getfield 303, 3) := dt_Ref_watched 17
theorem d_Ref_watched_36 : decode (jm_cod M_Ref_watched) 36 = .ok (.ifCond .le 5, 3) := dt_Ref_watched 18
theorem d_Ref_watched_39 : decode (jm_cod M_Ref_watched) 39 = .ok (.iconst 0, 1) := dt_Ref_watched 19
theorem d_Ref_watched_40 : decode (jm_cod M_Ref_watched) 40 = .ok (.ireturn, 1) := dt_Ref_watched 20
theorem d_Ref_watched_41 : decode (jm_cod M_Ref_watched) 41 = .ok (.bipush 8, 2) := dt_Ref_watched 21
theorem d_Ref_watched_43 : decode (jm_cod M_Ref_watched) 43 = .ok (.iload_n 1, 1) := dt_Ref_watched 22
theorem d_Ref_watched_44 : decode (jm_cod M_Ref_watched) 44 = .ok (.iadd, 1) := dt_Ref_watched 23
theorem d_Ref_watched_45 : decode (jm_cod M_Ref_watched) 45 = .ok (.istore_n 3, 1) := dt_Ref_watched 24
theorem d_Ref_watched_46 : decode (jm_cod M_Ref_watched) 46 = .ok (.iload_n 2, 1) := dt_Ref_watched 25
theorem d_Ref_watched_47 : decode (jm_cod M_Ref_watched) 47 = .ok (.ifCond .ne 12, 3) := dt_Ref_watched 26
theorem d_Ref_watched_50 : decode (jm_cod M_Ref_watched) 50 = .ok (.aload_n 0, 1) := dt_Ref_watched 27
theorem d_Ref_watched_51 : decode (jm_cod M_Ref_watched) 51 = .ok (.getfield 238, 3) := dt_Ref_watched 28
theorem d_Ref_watched_54 : decode (jm_cod M_Ref_watched) 54 = .ok (.iload_n 3, 1) := dt_Ref_watched 29
theorem d_Ref_watched_55 : decode (jm_cod M_Ref_watched) 55 = .ok (.iaload, 1) := dt_Ref_watched 30
theorem d_Ref_watched_56 : decode (jm_cod M_Ref_watched) 56 = .ok (.goto 65, 3) := dt_Ref_watched 31
theorem d_Ref_watched_59 : decode (jm_cod M_Ref_watched) 59 = .ok (.iload_n 2, 1) := dt_Ref_watched 32
theorem d_Ref_watched_60 : decode (jm_cod M_Ref_watched) 60 = .ok (.iconst 1, 1) := dt_Ref_watched 33
theorem d_Ref_watched_61 : decode (jm_cod M_Ref_watched) 61 = .ok (.if_icmp .ne 12, 3) := dt_Ref_watched 34
theorem d_Ref_watched_64 : decode (jm_cod M_Ref_watched) 64 = .ok (.aload_n 0, 1) := dt_Ref_watched 35
theorem d_Ref_watched_65 : decode (jm_cod M_Ref_watched) 65 = .ok (.getfield 241, 3) := dt_Ref_watched 36
theorem d_Ref_watched_68 : decode (jm_cod M_Ref_watched) 68 = .ok (.iload_n 3, 1) := dt_Ref_watched 37
theorem d_Ref_watched_69 : decode (jm_cod M_Ref_watched) 69 = .ok (.iaload, 1) := dt_Ref_watched 38
theorem d_Ref_watched_70 : decode (jm_cod M_Ref_watched) 70 = .ok (.goto 51, 3) := dt_Ref_watched 39
theorem d_Ref_watched_73 : decode (jm_cod M_Ref_watched) 73 = .ok (.iload_n 2, 1) := dt_Ref_watched 40
theorem d_Ref_watched_74 : decode (jm_cod M_Ref_watched) 74 = .ok (.iconst 2, 1) := dt_Ref_watched 41
theorem d_Ref_watched_75 : decode (jm_cod M_Ref_watched) 75 = .ok (.if_icmp .ne 12, 3) := dt_Ref_watched 42
theorem d_Ref_watched_78 : decode (jm_cod M_Ref_watched) 78 = .ok (.aload_n 0, 1) := dt_Ref_watched 43
theorem d_Ref_watched_79 : decode (jm_cod M_Ref_watched) 79 = .ok (.getfield 244, 3) := dt_Ref_watched 44
theorem d_Ref_watched_82 : decode (jm_cod M_Ref_watched) 82 = .ok (.iload_n 3, 1) := dt_Ref_watched 45
theorem d_Ref_watched_83 : decode (jm_cod M_Ref_watched) 83 = .ok (.iaload, 1) := dt_Ref_watched 46
theorem d_Ref_watched_84 : decode (jm_cod M_Ref_watched) 84 = .ok (.goto 37, 3) := dt_Ref_watched 47
theorem d_Ref_watched_87 : decode (jm_cod M_Ref_watched) 87 = .ok (.iload_n 2, 1) := dt_Ref_watched 48
theorem d_Ref_watched_88 : decode (jm_cod M_Ref_watched) 88 = .ok (.iconst 3, 1) := dt_Ref_watched 49
theorem d_Ref_watched_89 : decode (jm_cod M_Ref_watched) 89 = .ok (.if_icmp .ne 12, 3) := dt_Ref_watched 50
theorem d_Ref_watched_92 : decode (jm_cod M_Ref_watched) 92 = .ok (.aload_n 0, 1) := dt_Ref_watched 51
theorem d_Ref_watched_93 : decode (jm_cod M_Ref_watched) 93 = .ok (.getfield 235, 3) := dt_Ref_watched 52
theorem d_Ref_watched_96 : decode (jm_cod M_Ref_watched) 96 = .ok (.iload_n 3, 1) := dt_Ref_watched 53
theorem d_Ref_watched_97 : decode (jm_cod M_Ref_watched) 97 = .ok (.iaload, 1) := dt_Ref_watched 54
theorem d_Ref_watched_98 : decode (jm_cod M_Ref_watched) 98 = .ok (.goto 23, 3) := dt_Ref_watched 55
theorem d_Ref_watched_101 : decode (jm_cod M_Ref_watched) 101 = .ok (.iload_n 2, 1) := dt_Ref_watched 56
theorem d_Ref_watched_102 : decode (jm_cod M_Ref_watched) 102 = .ok (.iconst 4, 1) := dt_Ref_watched 57
theorem d_Ref_watched_103 : decode (jm_cod M_Ref_watched) 103 = .ok (.if_icmp .ne 12, 3) := dt_Ref_watched 58
theorem d_Ref_watched_106 : decode (jm_cod M_Ref_watched) 106 = .ok (.aload_n 0, 1) := dt_Ref_watched 59
theorem d_Ref_watched_107 : decode (jm_cod M_Ref_watched) 107 = .ok (.getfield 247, 3) := dt_Ref_watched 60
theorem d_Ref_watched_110 : decode (jm_cod M_Ref_watched) 110 = .ok (.iload_n 3, 1) := dt_Ref_watched 61
theorem d_Ref_watched_111 : decode (jm_cod M_Ref_watched) 111 = .ok (.iaload, 1) := dt_Ref_watched 62
theorem d_Ref_watched_112 : decode (jm_cod M_Ref_watched) 112 = .ok (.goto 9, 3) := dt_Ref_watched 63
theorem d_Ref_watched_115 : decode (jm_cod M_Ref_watched) 115 = .ok (.aload_n 0, 1) := dt_Ref_watched 64
theorem d_Ref_watched_116 : decode (jm_cod M_Ref_watched) 116 = .ok (.getfield 250, 3) := dt_Ref_watched 65
theorem d_Ref_watched_119 : decode (jm_cod M_Ref_watched) 119 = .ok (.iload_n 3, 1) := dt_Ref_watched 66
theorem d_Ref_watched_120 : decode (jm_cod M_Ref_watched) 120 = .ok (.iaload, 1) := dt_Ref_watched 67
theorem d_Ref_watched_121 : decode (jm_cod M_Ref_watched) 121 = .ok (.ireturn, 1) := dt_Ref_watched 68
def tab_Ref_again : List (Nat × Instr × Nat) := [(0, .aload_n 0, 1), (1, .iload_n 1, 1), (2, .invokestatic 637, 3), (5, .ifCond .eq 7, 3), (8, .iconst 0, 1), (9, .goto 4, 3), (12, .iconst 1, 1), (13, .putfield 303, 3), (16, .aload_n 0, 1), (17, .getfield 303, 3), (20, .ifCond .ne 16, 3), (23, .aload_n 0, 1), (24, .bipush 8, 2), (26, .iload_n 1, 1), (27, .iadd, 1), (28, .invokevirtual 647, 3), (31, .aload_n 0, 1), (32, .iload_n 1, 1), (33, .invokevirtual 642, 3), (36, .return_, 1)]
theorem dt_Ref_again (i : Nat) : decode (jm_cod M_Ref_again) (tab_Ref_again.getD i (0, .aload_n 0, 1)).1 = .ok ((tab_Ref_again.getD i (0, .aload_n 0, 1)).2.1, (tab_Ref_again.getD i (0, .aload_n 0, 1)).2.2) := j_tab (by decide +kernel) i
theorem d_Ref_again_0 : decode (jm_cod M_Ref_again) 0 = .ok (.aload_n 0, 1) := dt_Ref_again 0
theorem d_Ref_again_1 : decode (jm_cod M_Ref_again) 1 = .ok (.iload_n 1, 1) := dt_Ref_again 1
theorem d_Ref_again_2 : decode (jm_cod M_Ref_again) 2 = .ok (.invokestatic 637, 3) := dt_Ref_again 2
theorem d_Ref_again_5 : decode (jm_cod M_Ref_again) 5 = .ok (.ifCond .eq 7, 3) := dt_Ref_again 3
theorem d_Ref_again_8 : decode (jm_cod M_Ref_again) 8 = .ok (.iconst 0, 1) := dt_Ref_again 4
theorem d_Ref_again_9 : decode (jm_cod M_Ref_again) 9 = .ok (.goto 4, 3) := dt_Ref_again 5
theorem d_Ref_again_12 : decode (jm_cod M_Ref_again) 12 = .ok (.iconst 1, 1) := dt_Ref_again 6
theorem d_Ref_again_13 : decode (jm_cod M_Ref_again) 13 = .ok (.putfield 303, 3) := dt_Ref_again 7
theorem d_Ref_again_16 : decode (jm_cod M_Ref_again) 16 = .ok (.aload_n 0, 1) := dt_Ref_again 8
theorem d_Ref_again_17 : decode (jm_cod M_Ref_again) 17 = .ok (.getfield 303, 3) := dt_Ref_again 9
theorem d_Ref_again_20 : decode (jm_cod M_Ref_again) 20 = .ok (.ifCond .ne 16, 3) := dt_Ref_again 10
theorem d_Ref_again_23 : decode (jm_cod M_Ref_again) 23 = .ok (.aload_n 0, 1) := dt_Ref_again 11
theorem d_Ref_again_24 : decode (jm_cod M_Ref_again) 24 = .ok (.bipush 8, 2) := dt_Ref_again 12
theorem d_Ref_again_26 : decode (jm_cod M_Ref_again) 26 = .ok (.iload_n 1, 1) := dt_Ref_again 13
theorem d_Ref_again_27 : decode (jm_cod M_Ref_again) 27 = .ok (.iadd, 1) := dt_Ref_again 14
theorem d_Ref_again_28 : decode (jm_cod M_Ref_again) 28 = .ok (.invokevirtual 647, 3) := dt_Ref_again 15
theorem d_Ref_again_31 : decode (jm_cod M_Ref_again) 31 = .ok (.aload_n 0, 1) := dt_Ref_again 16
theorem d_Ref_again_32 : decode (jm_cod M_Ref_again) 32 = .ok (.iload_n 1, 1) := dt_Ref_again 17
theorem d_Ref_again_33 : decode (jm_cod M_Ref_again) 33 = .ok (.invokevirtual 642, 3) := dt_Ref_again 18
theorem d_Ref_again_36 : decode (jm_cod M_Ref_again) 36 = .ok (.return_, 1) := dt_Ref_again 19
