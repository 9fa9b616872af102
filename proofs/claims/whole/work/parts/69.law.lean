/-! ===== the law: its instructions ===== -/
def lw_I0 : List (Nat × Instr × Nat) := [(0, .new 7, 3), (3, .dup, 1), (4, .invokespecial 9, 3), (7, .astore_n 1, 1), (8, .new 10, 3), (11, .dup, 1), (12, .invokespecial 12, 3), (15, .astore_n 2, 1), (16, .iconst 0, 1), (17, .istore_n 3, 1), (18, .iload_n 3, 1), (19, .aload_n 0, 1), (20, .arraylength, 1), (21, .iconst 4, 1), (22, .isub, 1), (23, .if_icmp .gt 1192, 3), (26, .aload_n 0, 1), (27, .iload_n 3, 1), (28, .iaload, 1), (29, .bipush 63, 2), (31, .iand, 1), (32, .tableswitch 1177 0 38 #[172, 205, 228, 253, 276, 299, 332, 365, 388, 401, 434, 467, 500, 523, 546, 559, 592, 615, 648, 691, 724, 757, 790, 813, 836, 859, 872, 913, 956, 979, 1002, 1015, 1038, 1063, 1076, 1089, 1138, 1151, 1164], 172), (204, .aload_n 1, 1), (205, .aload_n 0, 1), (206, .iload_n 3, 1), (207, .iconst 1, 1), (208, .iadd, 1), (209, .iaload, 1), (210, .aload_n 0, 1), (211, .iload_n 3, 1), (212, .iconst 2, 1), (213, .iadd, 1), (214, .iaload, 1), (215, .invokevirtual 13, 3), (218, .aload_n 2, 1), (219, .aload_n 0, 1), (220, .iload_n 3, 1), (221, .iconst 1, 1), (222, .iadd, 1), (223, .iaload, 1), (224, .aload_n 0, 1), (225, .iload_n 3, 1), (226, .iconst 2, 1), (227, .iadd, 1), (228, .iaload, 1), (229, .invokevirtual 17, 3), (232, .if_icmp .eq 977, 3), (235, .iconst 0, 1), (236, .ireturn, 1), (237, .aload_n 1, 1), (238, .aload_n 0, 1), (239, .iload_n 3, 1), (240, .iconst 1, 1), (241, .iadd, 1), (242, .iaload, 1), (243, .invokevirtual 18, 3), (246, .aload_n 2, 1), (247, .aload_n 0, 1), (248, .iload_n 3, 1), (249, .iconst 1, 1), (250, .iadd, 1), (251, .iaload, 1), (252, .invokevirtual 22, 3), (255, .if_icmp .eq 954, 3)]
def lw_I1 : List (Nat × Instr × Nat) := [(258, .iconst 0, 1), (259, .ireturn, 1), (260, .aload_n 1, 1), (261, .aload_n 0, 1), (262, .iload_n 3, 1), (263, .iconst 1, 1), (264, .iadd, 1), (265, .iaload, 1), (266, .i2c, 1), (267, .invokevirtual 23, 3), (270, .aload_n 2, 1), (271, .aload_n 0, 1), (272, .iload_n 3, 1), (273, .iconst 1, 1), (274, .iadd, 1), (275, .iaload, 1), (276, .i2c, 1), (277, .invokevirtual 27, 3), (280, .if_icmp .eq 929, 3), (283, .iconst 0, 1), (284, .ireturn, 1), (285, .aload_n 1, 1), (286, .aload_n 0, 1), (287, .iload_n 3, 1), (288, .iconst 1, 1), (289, .iadd, 1), (290, .iaload, 1), (291, .invokevirtual 28, 3), (294, .aload_n 2, 1), (295, .aload_n 0, 1), (296, .iload_n 3, 1), (297, .iconst 1, 1), (298, .iadd, 1), (299, .iaload, 1), (300, .invokevirtual 31, 3), (303, .if_icmp .eq 906, 3), (306, .iconst 0, 1), (307, .ireturn, 1), (308, .aload_n 1, 1), (309, .aload_n 0, 1), (310, .iload_n 3, 1), (311, .iconst 1, 1), (312, .iadd, 1), (313, .iaload, 1), (314, .invokevirtual 32, 3), (317, .aload_n 2, 1), (318, .aload_n 0, 1), (319, .iload_n 3, 1), (320, .iconst 1, 1), (321, .iadd, 1), (322, .iaload, 1), (323, .invokevirtual 35, 3), (326, .if_icmp .eq 883, 3), (329, .iconst 0, 1), (330, .ireturn, 1), (331, .aload_n 1, 1), (332, .aload_n 0, 1), (333, .iload_n 3, 1), (334, .iconst 1, 1), (335, .iadd, 1), (336, .iaload, 1), (337, .aload_n 0, 1), (338, .iload_n 3, 1), (339, .iconst 2, 1)]
def lw_I2 : List (Nat × Instr × Nat) := [(340, .iadd, 1), (341, .iaload, 1), (342, .invokevirtual 36, 3), (345, .aload_n 2, 1), (346, .aload_n 0, 1), (347, .iload_n 3, 1), (348, .iconst 1, 1), (349, .iadd, 1), (350, .iaload, 1), (351, .aload_n 0, 1), (352, .iload_n 3, 1), (353, .iconst 2, 1), (354, .iadd, 1), (355, .iaload, 1), (356, .invokevirtual 39, 3), (359, .if_icmp .eq 850, 3), (362, .iconst 0, 1), (363, .ireturn, 1), (364, .aload_n 1, 1), (365, .aload_n 0, 1), (366, .iload_n 3, 1), (367, .iconst 1, 1), (368, .iadd, 1), (369, .iaload, 1), (370, .aload_n 0, 1), (371, .iload_n 3, 1), (372, .iconst 2, 1), (373, .iadd, 1), (374, .iaload, 1), (375, .invokevirtual 40, 3), (378, .aload_n 2, 1), (379, .aload_n 0, 1), (380, .iload_n 3, 1), (381, .iconst 1, 1), (382, .iadd, 1), (383, .iaload, 1), (384, .aload_n 0, 1), (385, .iload_n 3, 1), (386, .iconst 2, 1), (387, .iadd, 1), (388, .iaload, 1), (389, .invokevirtual 43, 3), (392, .if_icmp .eq 817, 3), (395, .iconst 0, 1), (396, .ireturn, 1), (397, .aload_n 1, 1), (398, .aload_n 0, 1), (399, .iload_n 3, 1), (400, .iconst 1, 1), (401, .iadd, 1), (402, .iaload, 1), (403, .invokevirtual 44, 3), (406, .aload_n 2, 1), (407, .aload_n 0, 1), (408, .iload_n 3, 1), (409, .iconst 1, 1), (410, .iadd, 1), (411, .iaload, 1), (412, .invokevirtual 47, 3), (415, .if_icmp .eq 794, 3), (418, .iconst 0, 1), (419, .ireturn, 1), (420, .aload_n 1, 1), (421, .invokevirtual 48, 3)]
def lw_I3 : List (Nat × Instr × Nat) := [(424, .aload_n 2, 1), (425, .invokevirtual 52, 3), (428, .if_icmp .eq 781, 3), (431, .iconst 0, 1), (432, .ireturn, 1), (433, .aload_n 1, 1), (434, .aload_n 0, 1), (435, .iload_n 3, 1), (436, .iconst 1, 1), (437, .iadd, 1), (438, .iaload, 1), (439, .aload_n 0, 1), (440, .iload_n 3, 1), (441, .iconst 2, 1), (442, .iadd, 1), (443, .iaload, 1), (444, .invokevirtual 53, 3), (447, .aload_n 2, 1), (448, .aload_n 0, 1), (449, .iload_n 3, 1), (450, .iconst 1, 1), (451, .iadd, 1), (452, .iaload, 1), (453, .aload_n 0, 1), (454, .iload_n 3, 1), (455, .iconst 2, 1), (456, .iadd, 1), (457, .iaload, 1), (458, .invokevirtual 56, 3), (461, .if_icmp .eq 748, 3), (464, .iconst 0, 1), (465, .ireturn, 1), (466, .aload_n 1, 1), (467, .aload_n 0, 1), (468, .iload_n 3, 1), (469, .iconst 1, 1), (470, .iadd, 1), (471, .iaload, 1), (472, .aload_n 0, 1), (473, .iload_n 3, 1), (474, .iconst 2, 1), (475, .iadd, 1), (476, .iaload, 1), (477, .invokevirtual 57, 3), (480, .aload_n 2, 1), (481, .aload_n 0, 1), (482, .iload_n 3, 1), (483, .iconst 1, 1), (484, .iadd, 1), (485, .iaload, 1), (486, .aload_n 0, 1), (487, .iload_n 3, 1), (488, .iconst 2, 1), (489, .iadd, 1), (490, .iaload, 1), (491, .invokevirtual 60, 3), (494, .if_icmp .eq 715, 3), (497, .iconst 0, 1), (498, .ireturn, 1), (499, .aload_n 1, 1), (500, .aload_n 0, 1), (501, .iload_n 3, 1), (502, .iconst 1, 1), (503, .iadd, 1)]
def lw_I4 : List (Nat × Instr × Nat) := [(504, .iaload, 1), (505, .aload_n 0, 1), (506, .iload_n 3, 1), (507, .iconst 2, 1), (508, .iadd, 1), (509, .iaload, 1), (510, .invokevirtual 61, 3), (513, .aload_n 2, 1), (514, .aload_n 0, 1), (515, .iload_n 3, 1), (516, .iconst 1, 1), (517, .iadd, 1), (518, .iaload, 1), (519, .aload_n 0, 1), (520, .iload_n 3, 1), (521, .iconst 2, 1), (522, .iadd, 1), (523, .iaload, 1), (524, .invokevirtual 64, 3), (527, .if_icmp .eq 682, 3), (530, .iconst 0, 1), (531, .ireturn, 1), (532, .aload_n 1, 1), (533, .aload_n 0, 1), (534, .iload_n 3, 1), (535, .iconst 1, 1), (536, .iadd, 1), (537, .iaload, 1), (538, .invokevirtual 65, 3), (541, .aload_n 2, 1), (542, .aload_n 0, 1), (543, .iload_n 3, 1), (544, .iconst 1, 1), (545, .iadd, 1), (546, .iaload, 1), (547, .invokevirtual 68, 3), (550, .if_icmp .eq 659, 3), (553, .iconst 0, 1), (554, .ireturn, 1), (555, .aload_n 1, 1), (556, .aload_n 0, 1), (557, .iload_n 3, 1), (558, .iconst 1, 1), (559, .iadd, 1), (560, .iaload, 1), (561, .invokevirtual 69, 3), (564, .aload_n 2, 1), (565, .aload_n 0, 1), (566, .iload_n 3, 1), (567, .iconst 1, 1), (568, .iadd, 1), (569, .iaload, 1), (570, .invokevirtual 72, 3), (573, .if_icmp .eq 636, 3), (576, .iconst 0, 1), (577, .ireturn, 1), (578, .aload_n 1, 1), (579, .invokevirtual 73, 3), (582, .aload_n 2, 1), (583, .invokevirtual 76, 3), (586, .if_icmp .eq 623, 3), (589, .iconst 0, 1), (590, .ireturn, 1), (591, .aload_n 1, 1)]
def lw_I5 : List (Nat × Instr × Nat) := [(592, .aload_n 0, 1), (593, .iload_n 3, 1), (594, .iconst 1, 1), (595, .iadd, 1), (596, .iaload, 1), (597, .aload_n 0, 1), (598, .iload_n 3, 1), (599, .iconst 2, 1), (600, .iadd, 1), (601, .iaload, 1), (602, .invokevirtual 77, 3), (605, .aload_n 2, 1), (606, .aload_n 0, 1), (607, .iload_n 3, 1), (608, .iconst 1, 1), (609, .iadd, 1), (610, .iaload, 1), (611, .aload_n 0, 1), (612, .iload_n 3, 1), (613, .iconst 2, 1), (614, .iadd, 1), (615, .iaload, 1), (616, .invokevirtual 80, 3), (619, .if_icmp .eq 590, 3), (622, .iconst 0, 1), (623, .ireturn, 1), (624, .aload_n 1, 1), (625, .aload_n 0, 1), (626, .iload_n 3, 1), (627, .iconst 1, 1), (628, .iadd, 1), (629, .iaload, 1), (630, .invokevirtual 81, 3), (633, .aload_n 2, 1), (634, .aload_n 0, 1), (635, .iload_n 3, 1), (636, .iconst 1, 1), (637, .iadd, 1), (638, .iaload, 1), (639, .invokevirtual 84, 3), (642, .if_icmp .eq 567, 3), (645, .iconst 0, 1), (646, .ireturn, 1), (647, .aload_n 1, 1), (648, .aload_n 0, 1), (649, .iload_n 3, 1), (650, .iconst 1, 1), (651, .iadd, 1), (652, .iaload, 1), (653, .aload_n 0, 1), (654, .iload_n 3, 1), (655, .iconst 2, 1), (656, .iadd, 1), (657, .iaload, 1), (658, .invokevirtual 85, 3), (661, .aload_n 2, 1), (662, .aload_n 0, 1), (663, .iload_n 3, 1), (664, .iconst 1, 1), (665, .iadd, 1), (666, .iaload, 1), (667, .aload_n 0, 1), (668, .iload_n 3, 1), (669, .iconst 2, 1)]
def lw_I6 : List (Nat × Instr × Nat) := [(670, .iadd, 1), (671, .iaload, 1), (672, .invokevirtual 88, 3), (675, .if_icmp .eq 534, 3), (678, .iconst 0, 1), (679, .ireturn, 1), (680, .aload_n 1, 1), (681, .aload_n 0, 1), (682, .iload_n 3, 1), (683, .iconst 1, 1), (684, .iadd, 1), (685, .iaload, 1), (686, .aload_n 0, 1), (687, .iload_n 3, 1), (688, .iconst 2, 1), (689, .iadd, 1), (690, .iaload, 1), (691, .aload_n 0, 1), (692, .iload_n 3, 1), (693, .iconst 3, 1), (694, .iadd, 1), (695, .iaload, 1), (696, .invokevirtual 89, 3), (699, .aload_n 2, 1), (700, .aload_n 0, 1), (701, .iload_n 3, 1), (702, .iconst 1, 1), (703, .iadd, 1), (704, .iaload, 1), (705, .aload_n 0, 1), (706, .iload_n 3, 1), (707, .iconst 2, 1), (708, .iadd, 1), (709, .iaload, 1), (710, .aload_n 0, 1), (711, .iload_n 3, 1), (712, .iconst 3, 1), (713, .iadd, 1), (714, .iaload, 1), (715, .invokevirtual 93, 3), (718, .if_icmp .eq 491, 3), (721, .iconst 0, 1), (722, .ireturn, 1), (723, .aload_n 1, 1), (724, .aload_n 0, 1), (725, .iload_n 3, 1), (726, .iconst 1, 1), (727, .iadd, 1), (728, .iaload, 1), (729, .aload_n 0, 1), (730, .iload_n 3, 1), (731, .iconst 2, 1), (732, .iadd, 1), (733, .iaload, 1), (734, .invokevirtual 94, 3), (737, .aload_n 2, 1), (738, .aload_n 0, 1), (739, .iload_n 3, 1), (740, .iconst 1, 1), (741, .iadd, 1), (742, .iaload, 1), (743, .aload_n 0, 1), (744, .iload_n 3, 1), (745, .iconst 2, 1)]
def lw_I7 : List (Nat × Instr × Nat) := [(746, .iadd, 1), (747, .iaload, 1), (748, .invokevirtual 97, 3), (751, .if_icmp .eq 458, 3), (754, .iconst 0, 1), (755, .ireturn, 1), (756, .aload_n 1, 1), (757, .aload_n 0, 1), (758, .iload_n 3, 1), (759, .iconst 1, 1), (760, .iadd, 1), (761, .iaload, 1), (762, .aload_n 0, 1), (763, .iload_n 3, 1), (764, .iconst 2, 1), (765, .iadd, 1), (766, .iaload, 1), (767, .invokevirtual 98, 3), (770, .aload_n 2, 1), (771, .aload_n 0, 1), (772, .iload_n 3, 1), (773, .iconst 1, 1), (774, .iadd, 1), (775, .iaload, 1), (776, .aload_n 0, 1), (777, .iload_n 3, 1), (778, .iconst 2, 1), (779, .iadd, 1), (780, .iaload, 1), (781, .invokevirtual 101, 3), (784, .if_icmp .eq 425, 3), (787, .iconst 0, 1), (788, .ireturn, 1), (789, .aload_n 1, 1), (790, .aload_n 0, 1), (791, .iload_n 3, 1), (792, .iconst 1, 1), (793, .iadd, 1), (794, .iaload, 1), (795, .aload_n 0, 1), (796, .iload_n 3, 1), (797, .iconst 2, 1), (798, .iadd, 1), (799, .iaload, 1), (800, .invokevirtual 102, 3), (803, .aload_n 2, 1), (804, .aload_n 0, 1), (805, .iload_n 3, 1), (806, .iconst 1, 1), (807, .iadd, 1), (808, .iaload, 1), (809, .aload_n 0, 1), (810, .iload_n 3, 1), (811, .iconst 2, 1), (812, .iadd, 1), (813, .iaload, 1), (814, .invokevirtual 105, 3), (817, .if_icmp .eq 392, 3), (820, .iconst 0, 1), (821, .ireturn, 1), (822, .aload_n 1, 1), (823, .aload_n 0, 1), (824, .iload_n 3, 1), (825, .iconst 1, 1)]
def lw_I8 : List (Nat × Instr × Nat) := [(826, .iadd, 1), (827, .iaload, 1), (828, .invokevirtual 106, 3), (831, .aload_n 2, 1), (832, .aload_n 0, 1), (833, .iload_n 3, 1), (834, .iconst 1, 1), (835, .iadd, 1), (836, .iaload, 1), (837, .invokevirtual 109, 3), (840, .if_icmp .eq 369, 3), (843, .iconst 0, 1), (844, .ireturn, 1), (845, .aload_n 1, 1), (846, .aload_n 0, 1), (847, .iload_n 3, 1), (848, .iconst 1, 1), (849, .iadd, 1), (850, .iaload, 1), (851, .invokevirtual 110, 3), (854, .aload_n 2, 1), (855, .aload_n 0, 1), (856, .iload_n 3, 1), (857, .iconst 1, 1), (858, .iadd, 1), (859, .iaload, 1), (860, .invokevirtual 113, 3), (863, .if_icmp .eq 346, 3), (866, .iconst 0, 1), (867, .ireturn, 1), (868, .aload_n 1, 1), (869, .aload_n 0, 1), (870, .iload_n 3, 1), (871, .iconst 1, 1), (872, .iadd, 1), (873, .iaload, 1), (874, .invokevirtual 114, 3), (877, .aload_n 2, 1), (878, .aload_n 0, 1), (879, .iload_n 3, 1), (880, .iconst 1, 1), (881, .iadd, 1), (882, .iaload, 1), (883, .invokevirtual 117, 3), (886, .if_icmp .eq 323, 3), (889, .iconst 0, 1), (890, .ireturn, 1), (891, .aload_n 1, 1), (892, .invokevirtual 118, 3), (895, .aload_n 2, 1), (896, .invokevirtual 122, 3), (899, .if_icmp .eq 310, 3), (902, .iconst 0, 1), (903, .ireturn, 1), (904, .aload_n 1, 1), (905, .invokevirtual 123, 3), (908, .dstore 4, 2), (910, .aload_n 2, 1), (911, .invokevirtual 127, 3), (914, .dstore 6, 2), (916, .dload 4, 2), (918, .dload 6, 2), (920, .dcmp .l, 1), (921, .ifCond .eq 21, 3)]
def lw_I9 : List (Nat × Instr × Nat) := [(924, .dload 4, 2), (926, .dload 4, 2), (928, .dcmp .l, 1), (929, .ifCond .eq 11, 3), (932, .dload 6, 2), (934, .dload 6, 2), (936, .dcmp .l, 1), (937, .ifCond .ne 5, 3), (940, .iconst 0, 1), (941, .ireturn, 1), (942, .goto 267, 3), (945, .aload_n 1, 1), (946, .invokevirtual 128, 3), (949, .f2d, 1), (950, .dstore 4, 2), (952, .aload_n 2, 1), (953, .invokevirtual 132, 3), (956, .f2d, 1), (957, .dstore 6, 2), (959, .dload 4, 2), (961, .dload 6, 2), (963, .dcmp .l, 1), (964, .ifCond .eq 21, 3), (967, .dload 4, 2), (969, .dload 4, 2), (971, .dcmp .l, 1), (972, .ifCond .eq 11, 3), (975, .dload 6, 2), (977, .dload 6, 2), (979, .dcmp .l, 1), (980, .ifCond .ne 5, 3), (983, .iconst 0, 1), (984, .ireturn, 1), (985, .goto 224, 3), (988, .aload_n 1, 1), (989, .aload_n 0, 1), (990, .iload_n 3, 1), (991, .iconst 1, 1), (992, .iadd, 1), (993, .iaload, 1), (994, .invokevirtual 133, 3), (997, .aload_n 2, 1), (998, .aload_n 0, 1), (999, .iload_n 3, 1), (1000, .iconst 1, 1), (1001, .iadd, 1), (1002, .iaload, 1), (1003, .invokevirtual 136, 3), (1006, .if_icmp .eq 203, 3), (1009, .iconst 0, 1), (1010, .ireturn, 1), (1011, .aload_n 1, 1), (1012, .aload_n 0, 1), (1013, .iload_n 3, 1), (1014, .iconst 1, 1), (1015, .iadd, 1), (1016, .iaload, 1), (1017, .invokevirtual 137, 3), (1020, .aload_n 2, 1), (1021, .aload_n 0, 1), (1022, .iload_n 3, 1), (1023, .iconst 1, 1), (1024, .iadd, 1), (1025, .iaload, 1)]
def lw_I10 : List (Nat × Instr × Nat) := [(1026, .invokevirtual 140, 3), (1029, .if_icmp .eq 180, 3), (1032, .iconst 0, 1), (1033, .ireturn, 1), (1034, .aload_n 1, 1), (1035, .invokevirtual 141, 3), (1038, .aload_n 2, 1), (1039, .invokevirtual 144, 3), (1042, .if_icmp .eq 167, 3), (1045, .iconst 0, 1), (1046, .ireturn, 1), (1047, .aload_n 1, 1), (1048, .aload_n 0, 1), (1049, .iload_n 3, 1), (1050, .iconst 1, 1), (1051, .iadd, 1), (1052, .iaload, 1), (1053, .invokevirtual 145, 3), (1056, .aload_n 2, 1), (1057, .aload_n 0, 1), (1058, .iload_n 3, 1), (1059, .iconst 1, 1), (1060, .iadd, 1), (1061, .iaload, 1), (1062, .invokevirtual 148, 3), (1065, .if_icmp .eq 144, 3), (1068, .iconst 0, 1), (1069, .ireturn, 1), (1070, .aload_n 1, 1), (1071, .aload_n 0, 1), (1072, .iload_n 3, 1), (1073, .iconst 1, 1), (1074, .iadd, 1), (1075, .iaload, 1), (1076, .i2c, 1), (1077, .invokevirtual 149, 3), (1080, .aload_n 2, 1), (1081, .aload_n 0, 1), (1082, .iload_n 3, 1), (1083, .iconst 1, 1), (1084, .iadd, 1), (1085, .iaload, 1), (1086, .i2c, 1), (1087, .invokevirtual 152, 3), (1090, .if_icmp .eq 119, 3), (1093, .iconst 0, 1), (1094, .ireturn, 1), (1095, .aload_n 1, 1), (1096, .invokevirtual 153, 3), (1099, .aload_n 2, 1), (1100, .invokevirtual 156, 3), (1103, .if_icmp .eq 106, 3), (1106, .iconst 0, 1), (1107, .ireturn, 1), (1108, .aload_n 1, 1), (1109, .invokevirtual 157, 3), (1112, .aload_n 2, 1), (1113, .invokevirtual 160, 3), (1116, .if_icmp .eq 93, 3), (1119, .iconst 0, 1), (1120, .ireturn, 1), (1121, .aload_n 1, 1), (1122, .aload_n 0, 1), (1123, .iload_n 3, 1)]
def lw_I11 : List (Nat × Instr × Nat) := [(1124, .iconst 1, 1), (1125, .iadd, 1), (1126, .iaload, 1), (1127, .aload_n 0, 1), (1128, .iload_n 3, 1), (1129, .iconst 2, 1), (1130, .iadd, 1), (1131, .iaload, 1), (1132, .ifCond .eq 7, 3), (1135, .iconst 1, 1), (1136, .goto 4, 3), (1139, .iconst 0, 1), (1140, .invokevirtual 161, 3), (1143, .aload_n 2, 1), (1144, .aload_n 0, 1), (1145, .iload_n 3, 1), (1146, .iconst 1, 1), (1147, .iadd, 1), (1148, .iaload, 1), (1149, .aload_n 0, 1), (1150, .iload_n 3, 1), (1151, .iconst 2, 1), (1152, .iadd, 1), (1153, .iaload, 1), (1154, .ifCond .eq 7, 3), (1157, .iconst 1, 1), (1158, .goto 4, 3), (1161, .iconst 0, 1), (1162, .invokevirtual 165, 3), (1165, .if_icmp .eq 44, 3), (1168, .iconst 0, 1), (1169, .ireturn, 1), (1170, .aload_n 1, 1), (1171, .invokevirtual 166, 3), (1174, .aload_n 2, 1), (1175, .invokevirtual 169, 3), (1178, .if_icmp .eq 31, 3), (1181, .iconst 0, 1), (1182, .ireturn, 1), (1183, .aload_n 1, 1), (1184, .invokevirtual 170, 3), (1187, .aload_n 2, 1), (1188, .invokevirtual 173, 3), (1191, .if_icmp .eq 18, 3), (1194, .iconst 0, 1), (1195, .ireturn, 1), (1196, .aload_n 1, 1), (1197, .invokevirtual 174, 3), (1200, .aload_n 2, 1), (1201, .invokevirtual 177, 3), (1204, .if_icmp .eq 5, 3), (1207, .iconst 0, 1), (1208, .ireturn, 1), (1209, .iinc 3 4, 3), (1212, .goto (-1194), 3), (1215, .iconst 1, 1), (1216, .ireturn, 1)]
def lw_okI (e : Nat × Instr × Nat) : Bool := decide (decode code e.1 = .ok (e.2.1, e.2.2))
set_option maxRecDepth 100000 in
theorem lw_okI_0 : lw_I0.all lw_okI = true := by decide +kernel
set_option maxRecDepth 100000 in
theorem lw_okI_1 : lw_I1.all lw_okI = true := by decide +kernel
set_option maxRecDepth 100000 in
theorem lw_okI_2 : lw_I2.all lw_okI = true := by decide +kernel
set_option maxRecDepth 100000 in
theorem lw_okI_3 : lw_I3.all lw_okI = true := by decide +kernel
set_option maxRecDepth 100000 in
theorem lw_okI_4 : lw_I4.all lw_okI = true := by decide +kernel
set_option maxRecDepth 100000 in
theorem lw_okI_5 : lw_I5.all lw_okI = true := by decide +kernel
set_option maxRecDepth 100000 in
theorem lw_okI_6 : lw_I6.all lw_okI = true := by decide +kernel
set_option maxRecDepth 100000 in
theorem lw_okI_7 : lw_I7.all lw_okI = true := by decide +kernel
set_option maxRecDepth 100000 in
theorem lw_okI_8 : lw_I8.all lw_okI = true := by decide +kernel
set_option maxRecDepth 100000 in
theorem lw_okI_9 : lw_I9.all lw_okI = true := by decide +kernel
set_option maxRecDepth 100000 in
theorem lw_okI_10 : lw_I10.all lw_okI = true := by decide +kernel
set_option maxRecDepth 100000 in
theorem lw_okI_11 : lw_I11.all lw_okI = true := by decide +kernel
theorem lw_dk {L : List (Nat × Instr × Nat)} (h : L.all lw_okI = true) (k : Nat) {e : Nat × Instr × Nat} (hk : L[k]? = some e) : decode code e.1 = .ok (e.2.1, e.2.2) := of_decide_eq_true (List.all_eq_true.mp h e (List.mem_of_getElem? hk))
theorem d_law_0 : decode code 0 = .ok (.new 7, 3) := lw_dk lw_okI_0 0 (e := (0, .new 7, 3)) rfl
theorem d_law_3 : decode code 3 = .ok (.dup, 1) := lw_dk lw_okI_0 1 (e := (3, .dup, 1)) rfl
theorem d_law_4 : decode code 4 = .ok (.invokespecial 9, 3) := lw_dk lw_okI_0 2 (e := (4, .invokespecial 9, 3)) rfl
theorem d_law_7 : decode code 7 = .ok (.astore_n 1, 1) := lw_dk lw_okI_0 3 (e := (7, .astore_n 1, 1)) rfl
theorem d_law_8 : decode code 8 = .ok (.new 10, 3) := lw_dk lw_okI_0 4 (e := (8, .new 10, 3)) rfl
theorem d_law_11 : decode code 11 = .ok (.dup, 1) := lw_dk lw_okI_0 5 (e := (11, .dup, 1)) rfl
theorem d_law_12 : decode code 12 = .ok (.invokespecial 12, 3) := lw_dk lw_okI_0 6 (e := (12, .invokespecial 12, 3)) rfl
theorem d_law_15 : decode code 15 = .ok (.astore_n 2, 1) := lw_dk lw_okI_0 7 (e := (15, .astore_n 2, 1)) rfl
theorem d_law_16 : decode code 16 = .ok (.iconst 0, 1) := lw_dk lw_okI_0 8 (e := (16, .iconst 0, 1)) rfl
theorem d_law_17 : decode code 17 = .ok (.istore_n 3, 1) := lw_dk lw_okI_0 9 (e := (17, .istore_n 3, 1)) rfl
theorem d_law_18 : decode code 18 = .ok (.iload_n 3, 1) := lw_dk lw_okI_0 10 (e := (18, .iload_n 3, 1)) rfl
theorem d_law_19 : decode code 19 = .ok (.aload_n 0, 1) := lw_dk lw_okI_0 11 (e := (19, .aload_n 0, 1)) rfl
theorem d_law_20 : decode code 20 = .ok (.arraylength, 1) := lw_dk lw_okI_0 12 (e := (20, .arraylength, 1)) rfl
theorem d_law_21 : decode code 21 = .ok (.iconst 4, 1) := lw_dk lw_okI_0 13 (e := (21, .iconst 4, 1)) rfl
theorem d_law_22 : decode code 22 = .ok (.isub, 1) := lw_dk lw_okI_0 14 (e := (22, .isub, 1)) rfl
theorem d_law_23 : decode code 23 = .ok (.if_icmp .gt 1192, 3) := lw_dk lw_okI_0 15 (e := (23, .if_icmp .gt 1192, 3)) rfl
theorem d_law_26 : decode code 26 = .ok (.aload_n 0, 1) := lw_dk lw_okI_0 16 (e := (26, .aload_n 0, 1)) rfl
theorem d_law_27 : decode code 27 = .ok (.iload_n 3, 1) := lw_dk lw_okI_0 17 (e := (27, .iload_n 3, 1)) rfl
theorem d_law_28 : decode code 28 = .ok (.iaload, 1) := lw_dk lw_okI_0 18 (e := (28, .iaload, 1)) rfl
theorem d_law_29 : decode code 29 = .ok (.bipush 63, 2) := lw_dk lw_okI_0 19 (e := (29, .bipush 63, 2)) rfl
theorem d_law_31 : decode code 31 = .ok (.iand, 1) := lw_dk lw_okI_0 20 (e := (31, .iand, 1)) rfl
theorem d_law_32 : decode code 32 = .ok (.tableswitch 1177 0 38 #[172, 205, 228, 253, 276, 299, 332, 365, 388, 401, 434, 467, 500, 523, 546, 559, 592, 615, 648, 691, 724, 757, 790, 813, 836, 859, 872, 913, 956, 979, 1002, 1015, 1038, 1063, 1076, 1089, 1138, 1151, 1164], 172) := lw_dk lw_okI_0 21 (e := (32, .tableswitch 1177 0 38 #[172, 205, 228, 253, 276, 299, 332, 365, 388, 401, 434, 467, 500, 523, 546, 559, 592, 615, 648, 691, 724, 757, 790, 813, 836, 859, 872, 913, 956, 979, 1002, 1015, 1038, 1063, 1076, 1089, 1138, 1151, 1164], 172)) rfl
theorem d_law_204 : decode code 204 = .ok (.aload_n 1, 1) := lw_dk lw_okI_0 22 (e := (204, .aload_n 1, 1)) rfl
theorem d_law_205 : decode code 205 = .ok (.aload_n 0, 1) := lw_dk lw_okI_0 23 (e := (205, .aload_n 0, 1)) rfl
theorem d_law_206 : decode code 206 = .ok (.iload_n 3, 1) := lw_dk lw_okI_0 24 (e := (206, .iload_n 3, 1)) rfl
theorem d_law_207 : decode code 207 = .ok (.iconst 1, 1) := lw_dk lw_okI_0 25 (e := (207, .iconst 1, 1)) rfl
theorem d_law_208 : decode code 208 = .ok (.iadd, 1) := lw_dk lw_okI_0 26 (e := (208, .iadd, 1)) rfl
theorem d_law_209 : decode code 209 = .ok (.iaload, 1) := lw_dk lw_okI_0 27 (e := (209, .iaload, 1)) rfl
theorem d_law_210 : decode code 210 = .ok (.aload_n 0, 1) := lw_dk lw_okI_0 28 (e := (210, .aload_n 0, 1)) rfl
theorem d_law_211 : decode code 211 = .ok (.iload_n 3, 1) := lw_dk lw_okI_0 29 (e := (211, .iload_n 3, 1)) rfl
theorem d_law_212 : decode code 212 = .ok (.iconst 2, 1) := lw_dk lw_okI_0 30 (e := (212, .iconst 2, 1)) rfl
theorem d_law_213 : decode code 213 = .ok (.iadd, 1) := lw_dk lw_okI_0 31 (e := (213, .iadd, 1)) rfl
theorem d_law_214 : decode code 214 = .ok (.iaload, 1) := lw_dk lw_okI_0 32 (e := (214, .iaload, 1)) rfl
theorem d_law_215 : decode code 215 = .ok (.invokevirtual 13, 3) := lw_dk lw_okI_0 33 (e := (215, .invokevirtual 13, 3)) rfl
theorem d_law_218 : decode code 218 = .ok (.aload_n 2, 1) := lw_dk lw_okI_0 34 (e := (218, .aload_n 2, 1)) rfl
theorem d_law_219 : decode code 219 = .ok (.aload_n 0, 1) := lw_dk lw_okI_0 35 (e := (219, .aload_n 0, 1)) rfl
theorem d_law_220 : decode code 220 = .ok (.iload_n 3, 1) := lw_dk lw_okI_0 36 (e := (220, .iload_n 3, 1)) rfl
theorem d_law_221 : decode code 221 = .ok (.iconst 1, 1) := lw_dk lw_okI_0 37 (e := (221, .iconst 1, 1)) rfl
theorem d_law_222 : decode code 222 = .ok (.iadd, 1) := lw_dk lw_okI_0 38 (e := (222, .iadd, 1)) rfl
theorem d_law_223 : decode code 223 = .ok (.iaload, 1) := lw_dk lw_okI_0 39 (e := (223, .iaload, 1)) rfl
theorem d_law_224 : decode code 224 = .ok (.aload_n 0, 1) := lw_dk lw_okI_0 40 (e := (224, .aload_n 0, 1)) rfl
theorem d_law_225 : decode code 225 = .ok (.iload_n 3, 1) := lw_dk lw_okI_0 41 (e := (225, .iload_n 3, 1)) rfl
theorem d_law_226 : decode code 226 = .ok (.iconst 2, 1) := lw_dk lw_okI_0 42 (e := (226, .iconst 2, 1)) rfl
theorem d_law_227 : decode code 227 = .ok (.iadd, 1) := lw_dk lw_okI_0 43 (e := (227, .iadd, 1)) rfl
theorem d_law_228 : decode code 228 = .ok (.iaload, 1) := lw_dk lw_okI_0 44 (e := (228, .iaload, 1)) rfl
theorem d_law_229 : decode code 229 = .ok (.invokevirtual 17, 3) := lw_dk lw_okI_0 45 (e := (229, .invokevirtual 17, 3)) rfl
theorem d_law_232 : decode code 232 = .ok (.if_icmp .eq 977, 3) := lw_dk lw_okI_0 46 (e := (232, .if_icmp .eq 977, 3)) rfl
theorem d_law_235 : decode code 235 = .ok (.iconst 0, 1) := lw_dk lw_okI_0 47 (e := (235, .iconst 0, 1)) rfl
theorem d_law_236 : decode code 236 = .ok (.ireturn, 1) := lw_dk lw_okI_0 48 (e := (236, .ireturn, 1)) rfl
theorem d_law_237 : decode code 237 = .ok (.aload_n 1, 1) := lw_dk lw_okI_0 49 (e := (237, .aload_n 1, 1)) rfl
theorem d_law_238 : decode code 238 = .ok (.aload_n 0, 1) := lw_dk lw_okI_0 50 (e := (238, .aload_n 0, 1)) rfl
theorem d_law_239 : decode code 239 = .ok (.iload_n 3, 1) := lw_dk lw_okI_0 51 (e := (239, .iload_n 3, 1)) rfl
theorem d_law_240 : decode code 240 = .ok (.iconst 1, 1) := lw_dk lw_okI_0 52 (e := (240, .iconst 1, 1)) rfl
theorem d_law_241 : decode code 241 = .ok (.iadd, 1) := lw_dk lw_okI_0 53 (e := (241, .iadd, 1)) rfl
theorem d_law_242 : decode code 242 = .ok (.iaload, 1) := lw_dk lw_okI_0 54 (e := (242, .iaload, 1)) rfl
theorem d_law_243 : decode code 243 = .ok (.invokevirtual 18, 3) := lw_dk lw_okI_0 55 (e := (243, .invokevirtual 18, 3)) rfl
theorem d_law_246 : decode code 246 = .ok (.aload_n 2, 1) := lw_dk lw_okI_0 56 (e := (246, .aload_n 2, 1)) rfl
theorem d_law_247 : decode code 247 = .ok (.aload_n 0, 1) := lw_dk lw_okI_0 57 (e := (247, .aload_n 0, 1)) rfl
theorem d_law_248 : decode code 248 = .ok (.iload_n 3, 1) := lw_dk lw_okI_0 58 (e := (248, .iload_n 3, 1)) rfl
theorem d_law_249 : decode code 249 = .ok (.iconst 1, 1) := lw_dk lw_okI_0 59 (e := (249, .iconst 1, 1)) rfl
theorem d_law_250 : decode code 250 = .ok (.iadd, 1) := lw_dk lw_okI_0 60 (e := (250, .iadd, 1)) rfl
theorem d_law_251 : decode code 251 = .ok (.iaload, 1) := lw_dk lw_okI_0 61 (e := (251, .iaload, 1)) rfl
theorem d_law_252 : decode code 252 = .ok (.invokevirtual 22, 3) := lw_dk lw_okI_0 62 (e := (252, .invokevirtual 22, 3)) rfl
theorem d_law_255 : decode code 255 = .ok (.if_icmp .eq 954, 3) := lw_dk lw_okI_0 63 (e := (255, .if_icmp .eq 954, 3)) rfl
theorem d_law_258 : decode code 258 = .ok (.iconst 0, 1) := lw_dk lw_okI_1 0 (e := (258, .iconst 0, 1)) rfl
theorem d_law_259 : decode code 259 = .ok (.ireturn, 1) := lw_dk lw_okI_1 1 (e := (259, .ireturn, 1)) rfl
theorem d_law_260 : decode code 260 = .ok (.aload_n 1, 1) := lw_dk lw_okI_1 2 (e := (260, .aload_n 1, 1)) rfl
theorem d_law_261 : decode code 261 = .ok (.aload_n 0, 1) := lw_dk lw_okI_1 3 (e := (261, .aload_n 0, 1)) rfl
theorem d_law_262 : decode code 262 = .ok (.iload_n 3, 1) := lw_dk lw_okI_1 4 (e := (262, .iload_n 3, 1)) rfl
theorem d_law_263 : decode code 263 = .ok (.iconst 1, 1) := lw_dk lw_okI_1 5 (e := (263, .iconst 1, 1)) rfl
theorem d_law_264 : decode code 264 = .ok (.iadd, 1) := lw_dk lw_okI_1 6 (e := (264, .iadd, 1)) rfl
theorem d_law_265 : decode code 265 = .ok (.iaload, 1) := lw_dk lw_okI_1 7 (e := (265, .iaload, 1)) rfl
theorem d_law_266 : decode code 266 = .ok (.i2c, 1) := lw_dk lw_okI_1 8 (e := (266, .i2c, 1)) rfl
theorem d_law_267 : decode code 267 = .ok (.invokevirtual 23, 3) := lw_dk lw_okI_1 9 (e := (267, .invokevirtual 23, 3)) rfl
theorem d_law_270 : decode code 270 = .ok (.aload_n 2, 1) := lw_dk lw_okI_1 10 (e := (270, .aload_n 2, 1)) rfl
theorem d_law_271 : decode code 271 = .ok (.aload_n 0, 1) := lw_dk lw_okI_1 11 (e := (271, .aload_n 0, 1)) rfl
theorem d_law_272 : decode code 272 = .ok (.iload_n 3, 1) := lw_dk lw_okI_1 12 (e := (272, .iload_n 3, 1)) rfl
theorem d_law_273 : decode code 273 = .ok (.iconst 1, 1) := lw_dk lw_okI_1 13 (e := (273, .iconst 1, 1)) rfl
theorem d_law_274 : decode code 274 = .ok (.iadd, 1) := lw_dk lw_okI_1 14 (e := (274, .iadd, 1)) rfl
theorem d_law_275 : decode code 275 = .ok (.iaload, 1) := lw_dk lw_okI_1 15 (e := (275, .iaload, 1)) rfl
theorem d_law_276 : decode code 276 = .ok (.i2c, 1) := lw_dk lw_okI_1 16 (e := (276, .i2c, 1)) rfl
theorem d_law_277 : decode code 277 = .ok (.invokevirtual 27, 3) := lw_dk lw_okI_1 17 (e := (277, .invokevirtual 27, 3)) rfl
theorem d_law_280 : decode code 280 = .ok (.if_icmp .eq 929, 3) := lw_dk lw_okI_1 18 (e := (280, .if_icmp .eq 929, 3)) rfl
theorem d_law_283 : decode code 283 = .ok (.iconst 0, 1) := lw_dk lw_okI_1 19 (e := (283, .iconst 0, 1)) rfl
theorem d_law_284 : decode code 284 = .ok (.ireturn, 1) := lw_dk lw_okI_1 20 (e := (284, .ireturn, 1)) rfl
theorem d_law_285 : decode code 285 = .ok (.aload_n 1, 1) := lw_dk lw_okI_1 21 (e := (285, .aload_n 1, 1)) rfl
theorem d_law_286 : decode code 286 = .ok (.aload_n 0, 1) := lw_dk lw_okI_1 22 (e := (286, .aload_n 0, 1)) rfl
theorem d_law_287 : decode code 287 = .ok (.iload_n 3, 1) := lw_dk lw_okI_1 23 (e := (287, .iload_n 3, 1)) rfl
theorem d_law_288 : decode code 288 = .ok (.iconst 1, 1) := lw_dk lw_okI_1 24 (e := (288, .iconst 1, 1)) rfl
theorem d_law_289 : decode code 289 = .ok (.iadd, 1) := lw_dk lw_okI_1 25 (e := (289, .iadd, 1)) rfl
theorem d_law_290 : decode code 290 = .ok (.iaload, 1) := lw_dk lw_okI_1 26 (e := (290, .iaload, 1)) rfl
theorem d_law_291 : decode code 291 = .ok (.invokevirtual 28, 3) := lw_dk lw_okI_1 27 (e := (291, .invokevirtual 28, 3)) rfl
theorem d_law_294 : decode code 294 = .ok (.aload_n 2, 1) := lw_dk lw_okI_1 28 (e := (294, .aload_n 2, 1)) rfl
theorem d_law_295 : decode code 295 = .ok (.aload_n 0, 1) := lw_dk lw_okI_1 29 (e := (295, .aload_n 0, 1)) rfl
theorem d_law_296 : decode code 296 = .ok (.iload_n 3, 1) := lw_dk lw_okI_1 30 (e := (296, .iload_n 3, 1)) rfl
theorem d_law_297 : decode code 297 = .ok (.iconst 1, 1) := lw_dk lw_okI_1 31 (e := (297, .iconst 1, 1)) rfl
theorem d_law_298 : decode code 298 = .ok (.iadd, 1) := lw_dk lw_okI_1 32 (e := (298, .iadd, 1)) rfl
theorem d_law_299 : decode code 299 = .ok (.iaload, 1) := lw_dk lw_okI_1 33 (e := (299, .iaload, 1)) rfl
theorem d_law_300 : decode code 300 = .ok (.invokevirtual 31, 3) := lw_dk lw_okI_1 34 (e := (300, .invokevirtual 31, 3)) rfl
theorem d_law_303 : decode code 303 = .ok (.if_icmp .eq 906, 3) := lw_dk lw_okI_1 35 (e := (303, .if_icmp .eq 906, 3)) rfl
theorem d_law_306 : decode code 306 = .ok (.iconst 0, 1) := lw_dk lw_okI_1 36 (e := (306, .iconst 0, 1)) rfl
theorem d_law_307 : decode code 307 = .ok (.ireturn, 1) := lw_dk lw_okI_1 37 (e := (307, .ireturn, 1)) rfl
theorem d_law_308 : decode code 308 = .ok (.aload_n 1, 1) := lw_dk lw_okI_1 38 (e := (308, .aload_n 1, 1)) rfl
theorem d_law_309 : decode code 309 = .ok (.aload_n 0, 1) := lw_dk lw_okI_1 39 (e := (309, .aload_n 0, 1)) rfl
theorem d_law_310 : decode code 310 = .ok (.iload_n 3, 1) := lw_dk lw_okI_1 40 (e := (310, .iload_n 3, 1)) rfl
theorem d_law_311 : decode code 311 = .ok (.iconst 1, 1) := lw_dk lw_okI_1 41 (e := (311, .iconst 1, 1)) rfl
theorem d_law_312 : decode code 312 = .ok (.iadd, 1) := lw_dk lw_okI_1 42 (e := (312, .iadd, 1)) rfl
theorem d_law_313 : decode code 313 = .ok (.iaload, 1) := lw_dk lw_okI_1 43 (e := (313, .iaload, 1)) rfl
theorem d_law_314 : decode code 314 = .ok (.invokevirtual 32, 3) := lw_dk lw_okI_1 44 (e := (314, .invokevirtual 32, 3)) rfl
theorem d_law_317 : decode code 317 = .ok (.aload_n 2, 1) := lw_dk lw_okI_1 45 (e := (317, .aload_n 2, 1)) rfl
theorem d_law_318 : decode code 318 = .ok (.aload_n 0, 1) := lw_dk lw_okI_1 46 (e := (318, .aload_n 0, 1)) rfl
theorem d_law_319 : decode code 319 = .ok (.iload_n 3, 1) := lw_dk lw_okI_1 47 (e := (319, .iload_n 3, 1)) rfl
theorem d_law_320 : decode code 320 = .ok (.iconst 1, 1) := lw_dk lw_okI_1 48 (e := (320, .iconst 1, 1)) rfl
theorem d_law_321 : decode code 321 = .ok (.iadd, 1) := lw_dk lw_okI_1 49 (e := (321, .iadd, 1)) rfl
theorem d_law_322 : decode code 322 = .ok (.iaload, 1) := lw_dk lw_okI_1 50 (e := (322, .iaload, 1)) rfl
theorem d_law_323 : decode code 323 = .ok (.invokevirtual 35, 3) := lw_dk lw_okI_1 51 (e := (323, .invokevirtual 35, 3)) rfl
theorem d_law_326 : decode code 326 = .ok (.if_icmp .eq 883, 3) := lw_dk lw_okI_1 52 (e := (326, .if_icmp .eq 883, 3)) rfl
theorem d_law_329 : decode code 329 = .ok (.iconst 0, 1) := lw_dk lw_okI_1 53 (e := (329, .iconst 0, 1)) rfl
theorem d_law_330 : decode code 330 = .ok (.ireturn, 1) := lw_dk lw_okI_1 54 (e := (330, .ireturn, 1)) rfl
theorem d_law_331 : decode code 331 = .ok (.aload_n 1, 1) := lw_dk lw_okI_1 55 (e := (331, .aload_n 1, 1)) rfl
theorem d_law_332 : decode code 332 = .ok (.aload_n 0, 1) := lw_dk lw_okI_1 56 (e := (332, .aload_n 0, 1)) rfl
theorem d_law_333 : decode code 333 = .ok (.iload_n 3, 1) := lw_dk lw_okI_1 57 (e := (333, .iload_n 3, 1)) rfl
theorem d_law_334 : decode code 334 = .ok (.iconst 1, 1) := lw_dk lw_okI_1 58 (e := (334, .iconst 1, 1)) rfl
theorem d_law_335 : decode code 335 = .ok (.iadd, 1) := lw_dk lw_okI_1 59 (e := (335, .iadd, 1)) rfl
theorem d_law_336 : decode code 336 = .ok (.iaload, 1) := lw_dk lw_okI_1 60 (e := (336, .iaload, 1)) rfl
theorem d_law_337 : decode code 337 = .ok (.aload_n 0, 1) := lw_dk lw_okI_1 61 (e := (337, .aload_n 0, 1)) rfl
theorem d_law_338 : decode code 338 = .ok (.iload_n 3, 1) := lw_dk lw_okI_1 62 (e := (338, .iload_n 3, 1)) rfl
theorem d_law_339 : decode code 339 = .ok (.iconst 2, 1) := lw_dk lw_okI_1 63 (e := (339, .iconst 2, 1)) rfl
theorem d_law_340 : decode code 340 = .ok (.iadd, 1) := lw_dk lw_okI_2 0 (e := (340, .iadd, 1)) rfl
theorem d_law_341 : decode code 341 = .ok (.iaload, 1) := lw_dk lw_okI_2 1 (e := (341, .iaload, 1)) rfl
theorem d_law_342 : decode code 342 = .ok (.invokevirtual 36, 3) := lw_dk lw_okI_2 2 (e := (342, .invokevirtual 36, 3)) rfl
theorem d_law_345 : decode code 345 = .ok (.aload_n 2, 1) := lw_dk lw_okI_2 3 (e := (345, .aload_n 2, 1)) rfl
theorem d_law_346 : decode code 346 = .ok (.aload_n 0, 1) := lw_dk lw_okI_2 4 (e := (346, .aload_n 0, 1)) rfl
theorem d_law_347 : decode code 347 = .ok (.iload_n 3, 1) := lw_dk lw_okI_2 5 (e := (347, .iload_n 3, 1)) rfl
theorem d_law_348 : decode code 348 = .ok (.iconst 1, 1) := lw_dk lw_okI_2 6 (e := (348, .iconst 1, 1)) rfl
theorem d_law_349 : decode code 349 = .ok (.iadd, 1) := lw_dk lw_okI_2 7 (e := (349, .iadd, 1)) rfl
theorem d_law_350 : decode code 350 = .ok (.iaload, 1) := lw_dk lw_okI_2 8 (e := (350, .iaload, 1)) rfl
theorem d_law_351 : decode code 351 = .ok (.aload_n 0, 1) := lw_dk lw_okI_2 9 (e := (351, .aload_n 0, 1)) rfl
theorem d_law_352 : decode code 352 = .ok (.iload_n 3, 1) := lw_dk lw_okI_2 10 (e := (352, .iload_n 3, 1)) rfl
theorem d_law_353 : decode code 353 = .ok (.iconst 2, 1) := lw_dk lw_okI_2 11 (e := (353, .iconst 2, 1)) rfl
theorem d_law_354 : decode code 354 = .ok (.iadd, 1) := lw_dk lw_okI_2 12 (e := (354, .iadd, 1)) rfl
theorem d_law_355 : decode code 355 = .ok (.iaload, 1) := lw_dk lw_okI_2 13 (e := (355, .iaload, 1)) rfl
theorem d_law_356 : decode code 356 = .ok (.invokevirtual 39, 3) := lw_dk lw_okI_2 14 (e := (356, .invokevirtual 39, 3)) rfl
theorem d_law_359 : decode code 359 = .ok (.if_icmp .eq 850, 3) := lw_dk lw_okI_2 15 (e := (359, .if_icmp .eq 850, 3)) rfl
theorem d_law_362 : decode code 362 = .ok (.iconst 0, 1) := lw_dk lw_okI_2 16 (e := (362, .iconst 0, 1)) rfl
theorem d_law_363 : decode code 363 = .ok (.ireturn, 1) := lw_dk lw_okI_2 17 (e := (363, .ireturn, 1)) rfl
theorem d_law_364 : decode code 364 = .ok (.aload_n 1, 1) := lw_dk lw_okI_2 18 (e := (364, .aload_n 1, 1)) rfl
theorem d_law_365 : decode code 365 = .ok (.aload_n 0, 1) := lw_dk lw_okI_2 19 (e := (365, .aload_n 0, 1)) rfl
theorem d_law_366 : decode code 366 = .ok (.iload_n 3, 1) := lw_dk lw_okI_2 20 (e := (366, .iload_n 3, 1)) rfl
theorem d_law_367 : decode code 367 = .ok (.iconst 1, 1) := lw_dk lw_okI_2 21 (e := (367, .iconst 1, 1)) rfl
theorem d_law_368 : decode code 368 = .ok (.iadd, 1) := lw_dk lw_okI_2 22 (e := (368, .iadd, 1)) rfl
theorem d_law_369 : decode code 369 = .ok (.iaload, 1) := lw_dk lw_okI_2 23 (e := (369, .iaload, 1)) rfl
theorem d_law_370 : decode code 370 = .ok (.aload_n 0, 1) := lw_dk lw_okI_2 24 (e := (370, .aload_n 0, 1)) rfl
theorem d_law_371 : decode code 371 = .ok (.iload_n 3, 1) := lw_dk lw_okI_2 25 (e := (371, .iload_n 3, 1)) rfl
theorem d_law_372 : decode code 372 = .ok (.iconst 2, 1) := lw_dk lw_okI_2 26 (e := (372, .iconst 2, 1)) rfl
theorem d_law_373 : decode code 373 = .ok (.iadd, 1) := lw_dk lw_okI_2 27 (e := (373, .iadd, 1)) rfl
theorem d_law_374 : decode code 374 = .ok (.iaload, 1) := lw_dk lw_okI_2 28 (e := (374, .iaload, 1)) rfl
theorem d_law_375 : decode code 375 = .ok (.invokevirtual 40, 3) := lw_dk lw_okI_2 29 (e := (375, .invokevirtual 40, 3)) rfl
theorem d_law_378 : decode code 378 = .ok (.aload_n 2, 1) := lw_dk lw_okI_2 30 (e := (378, .aload_n 2, 1)) rfl
theorem d_law_379 : decode code 379 = .ok (.aload_n 0, 1) := lw_dk lw_okI_2 31 (e := (379, .aload_n 0, 1)) rfl
theorem d_law_380 : decode code 380 = .ok (.iload_n 3, 1) := lw_dk lw_okI_2 32 (e := (380, .iload_n 3, 1)) rfl
theorem d_law_381 : decode code 381 = .ok (.iconst 1, 1) := lw_dk lw_okI_2 33 (e := (381, .iconst 1, 1)) rfl
theorem d_law_382 : decode code 382 = .ok (.iadd, 1) := lw_dk lw_okI_2 34 (e := (382, .iadd, 1)) rfl
theorem d_law_383 : decode code 383 = .ok (.iaload, 1) := lw_dk lw_okI_2 35 (e := (383, .iaload, 1)) rfl
theorem d_law_384 : decode code 384 = .ok (.aload_n 0, 1) := lw_dk lw_okI_2 36 (e := (384, .aload_n 0, 1)) rfl
theorem d_law_385 : decode code 385 = .ok (.iload_n 3, 1) := lw_dk lw_okI_2 37 (e := (385, .iload_n 3, 1)) rfl
theorem d_law_386 : decode code 386 = .ok (.iconst 2, 1) := lw_dk lw_okI_2 38 (e := (386, .iconst 2, 1)) rfl
theorem d_law_387 : decode code 387 = .ok (.iadd, 1) := lw_dk lw_okI_2 39 (e := (387, .iadd, 1)) rfl
theorem d_law_388 : decode code 388 = .ok (.iaload, 1) := lw_dk lw_okI_2 40 (e := (388, .iaload, 1)) rfl
theorem d_law_389 : decode code 389 = .ok (.invokevirtual 43, 3) := lw_dk lw_okI_2 41 (e := (389, .invokevirtual 43, 3)) rfl
theorem d_law_392 : decode code 392 = .ok (.if_icmp .eq 817, 3) := lw_dk lw_okI_2 42 (e := (392, .if_icmp .eq 817, 3)) rfl
theorem d_law_395 : decode code 395 = .ok (.iconst 0, 1) := lw_dk lw_okI_2 43 (e := (395, .iconst 0, 1)) rfl
theorem d_law_396 : decode code 396 = .ok (.ireturn, 1) := lw_dk lw_okI_2 44 (e := (396, .ireturn, 1)) rfl
theorem d_law_397 : decode code 397 = .ok (.aload_n 1, 1) := lw_dk lw_okI_2 45 (e := (397, .aload_n 1, 1)) rfl
theorem d_law_398 : decode code 398 = .ok (.aload_n 0, 1) := lw_dk lw_okI_2 46 (e := (398, .aload_n 0, 1)) rfl
theorem d_law_399 : decode code 399 = .ok (.iload_n 3, 1) := lw_dk lw_okI_2 47 (e := (399, .iload_n 3, 1)) rfl
theorem d_law_400 : decode code 400 = .ok (.iconst 1, 1) := lw_dk lw_okI_2 48 (e := (400, .iconst 1, 1)) rfl
theorem d_law_401 : decode code 401 = .ok (.iadd, 1) := lw_dk lw_okI_2 49 (e := (401, .iadd, 1)) rfl
theorem d_law_402 : decode code 402 = .ok (.iaload, 1) := lw_dk lw_okI_2 50 (e := (402, .iaload, 1)) rfl
theorem d_law_403 : decode code 403 = .ok (.invokevirtual 44, 3) := lw_dk lw_okI_2 51 (e := (403, .invokevirtual 44, 3)) rfl
theorem d_law_406 : decode code 406 = .ok (.aload_n 2, 1) := lw_dk lw_okI_2 52 (e := (406, .aload_n 2, 1)) rfl
theorem d_law_407 : decode code 407 = .ok (.aload_n 0, 1) := lw_dk lw_okI_2 53 (e := (407, .aload_n 0, 1)) rfl
theorem d_law_408 : decode code 408 = .ok (.iload_n 3, 1) := lw_dk lw_okI_2 54 (e := (408, .iload_n 3, 1)) rfl
theorem d_law_409 : decode code 409 = .ok (.iconst 1, 1) := lw_dk lw_okI_2 55 (e := (409, .iconst 1, 1)) rfl
theorem d_law_410 : decode code 410 = .ok (.iadd, 1) := lw_dk lw_okI_2 56 (e := (410, .iadd, 1)) rfl
theorem d_law_411 : decode code 411 = .ok (.iaload, 1) := lw_dk lw_okI_2 57 (e := (411, .iaload, 1)) rfl
theorem d_law_412 : decode code 412 = .ok (.invokevirtual 47, 3) := lw_dk lw_okI_2 58 (e := (412, .invokevirtual 47, 3)) rfl
theorem d_law_415 : decode code 415 = .ok (.if_icmp .eq 794, 3) := lw_dk lw_okI_2 59 (e := (415, .if_icmp .eq 794, 3)) rfl
theorem d_law_418 : decode code 418 = .ok (.iconst 0, 1) := lw_dk lw_okI_2 60 (e := (418, .iconst 0, 1)) rfl
theorem d_law_419 : decode code 419 = .ok (.ireturn, 1) := lw_dk lw_okI_2 61 (e := (419, .ireturn, 1)) rfl
theorem d_law_420 : decode code 420 = .ok (.aload_n 1, 1) := lw_dk lw_okI_2 62 (e := (420, .aload_n 1, 1)) rfl
theorem d_law_421 : decode code 421 = .ok (.invokevirtual 48, 3) := lw_dk lw_okI_2 63 (e := (421, .invokevirtual 48, 3)) rfl
theorem d_law_424 : decode code 424 = .ok (.aload_n 2, 1) := lw_dk lw_okI_3 0 (e := (424, .aload_n 2, 1)) rfl
theorem d_law_425 : decode code 425 = .ok (.invokevirtual 52, 3) := lw_dk lw_okI_3 1 (e := (425, .invokevirtual 52, 3)) rfl
theorem d_law_428 : decode code 428 = .ok (.if_icmp .eq 781, 3) := lw_dk lw_okI_3 2 (e := (428, .if_icmp .eq 781, 3)) rfl
theorem d_law_431 : decode code 431 = .ok (.iconst 0, 1) := lw_dk lw_okI_3 3 (e := (431, .iconst 0, 1)) rfl
theorem d_law_432 : decode code 432 = .ok (.ireturn, 1) := lw_dk lw_okI_3 4 (e := (432, .ireturn, 1)) rfl
theorem d_law_433 : decode code 433 = .ok (.aload_n 1, 1) := lw_dk lw_okI_3 5 (e := (433, .aload_n 1, 1)) rfl
theorem d_law_434 : decode code 434 = .ok (.aload_n 0, 1) := lw_dk lw_okI_3 6 (e := (434, .aload_n 0, 1)) rfl
theorem d_law_435 : decode code 435 = .ok (.iload_n 3, 1) := lw_dk lw_okI_3 7 (e := (435, .iload_n 3, 1)) rfl
theorem d_law_436 : decode code 436 = .ok (.iconst 1, 1) := lw_dk lw_okI_3 8 (e := (436, .iconst 1, 1)) rfl
theorem d_law_437 : decode code 437 = .ok (.iadd, 1) := lw_dk lw_okI_3 9 (e := (437, .iadd, 1)) rfl
theorem d_law_438 : decode code 438 = .ok (.iaload, 1) := lw_dk lw_okI_3 10 (e := (438, .iaload, 1)) rfl
theorem d_law_439 : decode code 439 = .ok (.aload_n 0, 1) := lw_dk lw_okI_3 11 (e := (439, .aload_n 0, 1)) rfl
theorem d_law_440 : decode code 440 = .ok (.iload_n 3, 1) := lw_dk lw_okI_3 12 (e := (440, .iload_n 3, 1)) rfl
theorem d_law_441 : decode code 441 = .ok (.iconst 2, 1) := lw_dk lw_okI_3 13 (e := (441, .iconst 2, 1)) rfl
theorem d_law_442 : decode code 442 = .ok (.iadd, 1) := lw_dk lw_okI_3 14 (e := (442, .iadd, 1)) rfl
theorem d_law_443 : decode code 443 = .ok (.iaload, 1) := lw_dk lw_okI_3 15 (e := (443, .iaload, 1)) rfl
theorem d_law_444 : decode code 444 = .ok (.invokevirtual 53, 3) := lw_dk lw_okI_3 16 (e := (444, .invokevirtual 53, 3)) rfl
theorem d_law_447 : decode code 447 = .ok (.aload_n 2, 1) := lw_dk lw_okI_3 17 (e := (447, .aload_n 2, 1)) rfl
theorem d_law_448 : decode code 448 = .ok (.aload_n 0, 1) := lw_dk lw_okI_3 18 (e := (448, .aload_n 0, 1)) rfl
theorem d_law_449 : decode code 449 = .ok (.iload_n 3, 1) := lw_dk lw_okI_3 19 (e := (449, .iload_n 3, 1)) rfl
theorem d_law_450 : decode code 450 = .ok (.iconst 1, 1) := lw_dk lw_okI_3 20 (e := (450, .iconst 1, 1)) rfl
theorem d_law_451 : decode code 451 = .ok (.iadd, 1) := lw_dk lw_okI_3 21 (e := (451, .iadd, 1)) rfl
theorem d_law_452 : decode code 452 = .ok (.iaload, 1) := lw_dk lw_okI_3 22 (e := (452, .iaload, 1)) rfl
theorem d_law_453 : decode code 453 = .ok (.aload_n 0, 1) := lw_dk lw_okI_3 23 (e := (453, .aload_n 0, 1)) rfl
theorem d_law_454 : decode code 454 = .ok (.iload_n 3, 1) := lw_dk lw_okI_3 24 (e := (454, .iload_n 3, 1)) rfl
theorem d_law_455 : decode code 455 = .ok (.iconst 2, 1) := lw_dk lw_okI_3 25 (e := (455, .iconst 2, 1)) rfl
theorem d_law_456 : decode code 456 = .ok (.iadd, 1) := lw_dk lw_okI_3 26 (e := (456, .iadd, 1)) rfl
theorem d_law_457 : decode code 457 = .ok (.iaload, 1) := lw_dk lw_okI_3 27 (e := (457, .iaload, 1)) rfl
theorem d_law_458 : decode code 458 = .ok (.invokevirtual 56, 3) := lw_dk lw_okI_3 28 (e := (458, .invokevirtual 56, 3)) rfl
theorem d_law_461 : decode code 461 = .ok (.if_icmp .eq 748, 3) := lw_dk lw_okI_3 29 (e := (461, .if_icmp .eq 748, 3)) rfl
theorem d_law_464 : decode code 464 = .ok (.iconst 0, 1) := lw_dk lw_okI_3 30 (e := (464, .iconst 0, 1)) rfl
theorem d_law_465 : decode code 465 = .ok (.ireturn, 1) := lw_dk lw_okI_3 31 (e := (465, .ireturn, 1)) rfl
theorem d_law_466 : decode code 466 = .ok (.aload_n 1, 1) := lw_dk lw_okI_3 32 (e := (466, .aload_n 1, 1)) rfl
theorem d_law_467 : decode code 467 = .ok (.aload_n 0, 1) := lw_dk lw_okI_3 33 (e := (467, .aload_n 0, 1)) rfl
theorem d_law_468 : decode code 468 = .ok (.iload_n 3, 1) := lw_dk lw_okI_3 34 (e := (468, .iload_n 3, 1)) rfl
theorem d_law_469 : decode code 469 = .ok (.iconst 1, 1) := lw_dk lw_okI_3 35 (e := (469, .iconst 1, 1)) rfl
theorem d_law_470 : decode code 470 = .ok (.iadd, 1) := lw_dk lw_okI_3 36 (e := (470, .iadd, 1)) rfl
theorem d_law_471 : decode code 471 = .ok (.iaload, 1) := lw_dk lw_okI_3 37 (e := (471, .iaload, 1)) rfl
theorem d_law_472 : decode code 472 = .ok (.aload_n 0, 1) := lw_dk lw_okI_3 38 (e := (472, .aload_n 0, 1)) rfl
theorem d_law_473 : decode code 473 = .ok (.iload_n 3, 1) := lw_dk lw_okI_3 39 (e := (473, .iload_n 3, 1)) rfl
theorem d_law_474 : decode code 474 = .ok (.iconst 2, 1) := lw_dk lw_okI_3 40 (e := (474, .iconst 2, 1)) rfl
theorem d_law_475 : decode code 475 = .ok (.iadd, 1) := lw_dk lw_okI_3 41 (e := (475, .iadd, 1)) rfl
theorem d_law_476 : decode code 476 = .ok (.iaload, 1) := lw_dk lw_okI_3 42 (e := (476, .iaload, 1)) rfl
theorem d_law_477 : decode code 477 = .ok (.invokevirtual 57, 3) := lw_dk lw_okI_3 43 (e := (477, .invokevirtual 57, 3)) rfl
theorem d_law_480 : decode code 480 = .ok (.aload_n 2, 1) := lw_dk lw_okI_3 44 (e := (480, .aload_n 2, 1)) rfl
theorem d_law_481 : decode code 481 = .ok (.aload_n 0, 1) := lw_dk lw_okI_3 45 (e := (481, .aload_n 0, 1)) rfl
theorem d_law_482 : decode code 482 = .ok (.iload_n 3, 1) := lw_dk lw_okI_3 46 (e := (482, .iload_n 3, 1)) rfl
theorem d_law_483 : decode code 483 = .ok (.iconst 1, 1) := lw_dk lw_okI_3 47 (e := (483, .iconst 1, 1)) rfl
theorem d_law_484 : decode code 484 = .ok (.iadd, 1) := lw_dk lw_okI_3 48 (e := (484, .iadd, 1)) rfl
theorem d_law_485 : decode code 485 = .ok (.iaload, 1) := lw_dk lw_okI_3 49 (e := (485, .iaload, 1)) rfl
theorem d_law_486 : decode code 486 = .ok (.aload_n 0, 1) := lw_dk lw_okI_3 50 (e := (486, .aload_n 0, 1)) rfl
theorem d_law_487 : decode code 487 = .ok (.iload_n 3, 1) := lw_dk lw_okI_3 51 (e := (487, .iload_n 3, 1)) rfl
theorem d_law_488 : decode code 488 = .ok (.iconst 2, 1) := lw_dk lw_okI_3 52 (e := (488, .iconst 2, 1)) rfl
theorem d_law_489 : decode code 489 = .ok (.iadd, 1) := lw_dk lw_okI_3 53 (e := (489, .iadd, 1)) rfl
theorem d_law_490 : decode code 490 = .ok (.iaload, 1) := lw_dk lw_okI_3 54 (e := (490, .iaload, 1)) rfl
theorem d_law_491 : decode code 491 = .ok (.invokevirtual 60, 3) := lw_dk lw_okI_3 55 (e := (491, .invokevirtual 60, 3)) rfl
theorem d_law_494 : decode code 494 = .ok (.if_icmp .eq 715, 3) := lw_dk lw_okI_3 56 (e := (494, .if_icmp .eq 715, 3)) rfl
theorem d_law_497 : decode code 497 = .ok (.iconst 0, 1) := lw_dk lw_okI_3 57 (e := (497, .iconst 0, 1)) rfl
theorem d_law_498 : decode code 498 = .ok (.ireturn, 1) := lw_dk lw_okI_3 58 (e := (498, .ireturn, 1)) rfl
theorem d_law_499 : decode code 499 = .ok (.aload_n 1, 1) := lw_dk lw_okI_3 59 (e := (499, .aload_n 1, 1)) rfl
theorem d_law_500 : decode code 500 = .ok (.aload_n 0, 1) := lw_dk lw_okI_3 60 (e := (500, .aload_n 0, 1)) rfl
theorem d_law_501 : decode code 501 = .ok (.iload_n 3, 1) := lw_dk lw_okI_3 61 (e := (501, .iload_n 3, 1)) rfl
theorem d_law_502 : decode code 502 = .ok (.iconst 1, 1) := lw_dk lw_okI_3 62 (e := (502, .iconst 1, 1)) rfl
theorem d_law_503 : decode code 503 = .ok (.iadd, 1) := lw_dk lw_okI_3 63 (e := (503, .iadd, 1)) rfl
theorem d_law_504 : decode code 504 = .ok (.iaload, 1) := lw_dk lw_okI_4 0 (e := (504, .iaload, 1)) rfl
theorem d_law_505 : decode code 505 = .ok (.aload_n 0, 1) := lw_dk lw_okI_4 1 (e := (505, .aload_n 0, 1)) rfl
theorem d_law_506 : decode code 506 = .ok (.iload_n 3, 1) := lw_dk lw_okI_4 2 (e := (506, .iload_n 3, 1)) rfl
theorem d_law_507 : decode code 507 = .ok (.iconst 2, 1) := lw_dk lw_okI_4 3 (e := (507, .iconst 2, 1)) rfl
theorem d_law_508 : decode code 508 = .ok (.iadd, 1) := lw_dk lw_okI_4 4 (e := (508, .iadd, 1)) rfl
theorem d_law_509 : decode code 509 = .ok (.iaload, 1) := lw_dk lw_okI_4 5 (e := (509, .iaload, 1)) rfl
theorem d_law_510 : decode code 510 = .ok (.invokevirtual 61, 3) := lw_dk lw_okI_4 6 (e := (510, .invokevirtual 61, 3)) rfl
theorem d_law_513 : decode code 513 = .ok (.aload_n 2, 1) := lw_dk lw_okI_4 7 (e := (513, .aload_n 2, 1)) rfl
theorem d_law_514 : decode code 514 = .ok (.aload_n 0, 1) := lw_dk lw_okI_4 8 (e := (514, .aload_n 0, 1)) rfl
theorem d_law_515 : decode code 515 = .ok (.iload_n 3, 1) := lw_dk lw_okI_4 9 (e := (515, .iload_n 3, 1)) rfl
theorem d_law_516 : decode code 516 = .ok (.iconst 1, 1) := lw_dk lw_okI_4 10 (e := (516, .iconst 1, 1)) rfl
theorem d_law_517 : decode code 517 = .ok (.iadd, 1) := lw_dk lw_okI_4 11 (e := (517, .iadd, 1)) rfl
theorem d_law_518 : decode code 518 = .ok (.iaload, 1) := lw_dk lw_okI_4 12 (e := (518, .iaload, 1)) rfl
theorem d_law_519 : decode code 519 = .ok (.aload_n 0, 1) := lw_dk lw_okI_4 13 (e := (519, .aload_n 0, 1)) rfl
theorem d_law_520 : decode code 520 = .ok (.iload_n 3, 1) := lw_dk lw_okI_4 14 (e := (520, .iload_n 3, 1)) rfl
theorem d_law_521 : decode code 521 = .ok (.iconst 2, 1) := lw_dk lw_okI_4 15 (e := (521, .iconst 2, 1)) rfl
theorem d_law_522 : decode code 522 = .ok (.iadd, 1) := lw_dk lw_okI_4 16 (e := (522, .iadd, 1)) rfl
theorem d_law_523 : decode code 523 = .ok (.iaload, 1) := lw_dk lw_okI_4 17 (e := (523, .iaload, 1)) rfl
theorem d_law_524 : decode code 524 = .ok (.invokevirtual 64, 3) := lw_dk lw_okI_4 18 (e := (524, .invokevirtual 64, 3)) rfl
theorem d_law_527 : decode code 527 = .ok (.if_icmp .eq 682, 3) := lw_dk lw_okI_4 19 (e := (527, .if_icmp .eq 682, 3)) rfl
theorem d_law_530 : decode code 530 = .ok (.iconst 0, 1) := lw_dk lw_okI_4 20 (e := (530, .iconst 0, 1)) rfl
theorem d_law_531 : decode code 531 = .ok (.ireturn, 1) := lw_dk lw_okI_4 21 (e := (531, .ireturn, 1)) rfl
theorem d_law_532 : decode code 532 = .ok (.aload_n 1, 1) := lw_dk lw_okI_4 22 (e := (532, .aload_n 1, 1)) rfl
theorem d_law_533 : decode code 533 = .ok (.aload_n 0, 1) := lw_dk lw_okI_4 23 (e := (533, .aload_n 0, 1)) rfl
theorem d_law_534 : decode code 534 = .ok (.iload_n 3, 1) := lw_dk lw_okI_4 24 (e := (534, .iload_n 3, 1)) rfl
theorem d_law_535 : decode code 535 = .ok (.iconst 1, 1) := lw_dk lw_okI_4 25 (e := (535, .iconst 1, 1)) rfl
theorem d_law_536 : decode code 536 = .ok (.iadd, 1) := lw_dk lw_okI_4 26 (e := (536, .iadd, 1)) rfl
theorem d_law_537 : decode code 537 = .ok (.iaload, 1) := lw_dk lw_okI_4 27 (e := (537, .iaload, 1)) rfl
theorem d_law_538 : decode code 538 = .ok (.invokevirtual 65, 3) := lw_dk lw_okI_4 28 (e := (538, .invokevirtual 65, 3)) rfl
theorem d_law_541 : decode code 541 = .ok (.aload_n 2, 1) := lw_dk lw_okI_4 29 (e := (541, .aload_n 2, 1)) rfl
theorem d_law_542 : decode code 542 = .ok (.aload_n 0, 1) := lw_dk lw_okI_4 30 (e := (542, .aload_n 0, 1)) rfl
theorem d_law_543 : decode code 543 = .ok (.iload_n 3, 1) := lw_dk lw_okI_4 31 (e := (543, .iload_n 3, 1)) rfl
theorem d_law_544 : decode code 544 = .ok (.iconst 1, 1) := lw_dk lw_okI_4 32 (e := (544, .iconst 1, 1)) rfl
theorem d_law_545 : decode code 545 = .ok (.iadd, 1) := lw_dk lw_okI_4 33 (e := (545, .iadd, 1)) rfl
theorem d_law_546 : decode code 546 = .ok (.iaload, 1) := lw_dk lw_okI_4 34 (e := (546, .iaload, 1)) rfl
theorem d_law_547 : decode code 547 = .ok (.invokevirtual 68, 3) := lw_dk lw_okI_4 35 (e := (547, .invokevirtual 68, 3)) rfl
theorem d_law_550 : decode code 550 = .ok (.if_icmp .eq 659, 3) := lw_dk lw_okI_4 36 (e := (550, .if_icmp .eq 659, 3)) rfl
theorem d_law_553 : decode code 553 = .ok (.iconst 0, 1) := lw_dk lw_okI_4 37 (e := (553, .iconst 0, 1)) rfl
theorem d_law_554 : decode code 554 = .ok (.ireturn, 1) := lw_dk lw_okI_4 38 (e := (554, .ireturn, 1)) rfl
theorem d_law_555 : decode code 555 = .ok (.aload_n 1, 1) := lw_dk lw_okI_4 39 (e := (555, .aload_n 1, 1)) rfl
theorem d_law_556 : decode code 556 = .ok (.aload_n 0, 1) := lw_dk lw_okI_4 40 (e := (556, .aload_n 0, 1)) rfl
theorem d_law_557 : decode code 557 = .ok (.iload_n 3, 1) := lw_dk lw_okI_4 41 (e := (557, .iload_n 3, 1)) rfl
theorem d_law_558 : decode code 558 = .ok (.iconst 1, 1) := lw_dk lw_okI_4 42 (e := (558, .iconst 1, 1)) rfl
theorem d_law_559 : decode code 559 = .ok (.iadd, 1) := lw_dk lw_okI_4 43 (e := (559, .iadd, 1)) rfl
theorem d_law_560 : decode code 560 = .ok (.iaload, 1) := lw_dk lw_okI_4 44 (e := (560, .iaload, 1)) rfl
theorem d_law_561 : decode code 561 = .ok (.invokevirtual 69, 3) := lw_dk lw_okI_4 45 (e := (561, .invokevirtual 69, 3)) rfl
theorem d_law_564 : decode code 564 = .ok (.aload_n 2, 1) := lw_dk lw_okI_4 46 (e := (564, .aload_n 2, 1)) rfl
theorem d_law_565 : decode code 565 = .ok (.aload_n 0, 1) := lw_dk lw_okI_4 47 (e := (565, .aload_n 0, 1)) rfl
theorem d_law_566 : decode code 566 = .ok (.iload_n 3, 1) := lw_dk lw_okI_4 48 (e := (566, .iload_n 3, 1)) rfl
theorem d_law_567 : decode code 567 = .ok (.iconst 1, 1) := lw_dk lw_okI_4 49 (e := (567, .iconst 1, 1)) rfl
theorem d_law_568 : decode code 568 = .ok (.iadd, 1) := lw_dk lw_okI_4 50 (e := (568, .iadd, 1)) rfl
theorem d_law_569 : decode code 569 = .ok (.iaload, 1) := lw_dk lw_okI_4 51 (e := (569, .iaload, 1)) rfl
theorem d_law_570 : decode code 570 = .ok (.invokevirtual 72, 3) := lw_dk lw_okI_4 52 (e := (570, .invokevirtual 72, 3)) rfl
theorem d_law_573 : decode code 573 = .ok (.if_icmp .eq 636, 3) := lw_dk lw_okI_4 53 (e := (573, .if_icmp .eq 636, 3)) rfl
theorem d_law_576 : decode code 576 = .ok (.iconst 0, 1) := lw_dk lw_okI_4 54 (e := (576, .iconst 0, 1)) rfl
theorem d_law_577 : decode code 577 = .ok (.ireturn, 1) := lw_dk lw_okI_4 55 (e := (577, .ireturn, 1)) rfl
theorem d_law_578 : decode code 578 = .ok (.aload_n 1, 1) := lw_dk lw_okI_4 56 (e := (578, .aload_n 1, 1)) rfl
theorem d_law_579 : decode code 579 = .ok (.invokevirtual 73, 3) := lw_dk lw_okI_4 57 (e := (579, .invokevirtual 73, 3)) rfl
theorem d_law_582 : decode code 582 = .ok (.aload_n 2, 1) := lw_dk lw_okI_4 58 (e := (582, .aload_n 2, 1)) rfl
theorem d_law_583 : decode code 583 = .ok (.invokevirtual 76, 3) := lw_dk lw_okI_4 59 (e := (583, .invokevirtual 76, 3)) rfl
theorem d_law_586 : decode code 586 = .ok (.if_icmp .eq 623, 3) := lw_dk lw_okI_4 60 (e := (586, .if_icmp .eq 623, 3)) rfl
theorem d_law_589 : decode code 589 = .ok (.iconst 0, 1) := lw_dk lw_okI_4 61 (e := (589, .iconst 0, 1)) rfl
theorem d_law_590 : decode code 590 = .ok (.ireturn, 1) := lw_dk lw_okI_4 62 (e := (590, .ireturn, 1)) rfl
theorem d_law_591 : decode code 591 = .ok (.aload_n 1, 1) := lw_dk lw_okI_4 63 (e := (591, .aload_n 1, 1)) rfl
theorem d_law_592 : decode code 592 = .ok (.aload_n 0, 1) := lw_dk lw_okI_5 0 (e := (592, .aload_n 0, 1)) rfl
theorem d_law_593 : decode code 593 = .ok (.iload_n 3, 1) := lw_dk lw_okI_5 1 (e := (593, .iload_n 3, 1)) rfl
theorem d_law_594 : decode code 594 = .ok (.iconst 1, 1) := lw_dk lw_okI_5 2 (e := (594, .iconst 1, 1)) rfl
theorem d_law_595 : decode code 595 = .ok (.iadd, 1) := lw_dk lw_okI_5 3 (e := (595, .iadd, 1)) rfl
theorem d_law_596 : decode code 596 = .ok (.iaload, 1) := lw_dk lw_okI_5 4 (e := (596, .iaload, 1)) rfl
theorem d_law_597 : decode code 597 = .ok (.aload_n 0, 1) := lw_dk lw_okI_5 5 (e := (597, .aload_n 0, 1)) rfl
theorem d_law_598 : decode code 598 = .ok (.iload_n 3, 1) := lw_dk lw_okI_5 6 (e := (598, .iload_n 3, 1)) rfl
theorem d_law_599 : decode code 599 = .ok (.iconst 2, 1) := lw_dk lw_okI_5 7 (e := (599, .iconst 2, 1)) rfl
theorem d_law_600 : decode code 600 = .ok (.iadd, 1) := lw_dk lw_okI_5 8 (e := (600, .iadd, 1)) rfl
theorem d_law_601 : decode code 601 = .ok (.iaload, 1) := lw_dk lw_okI_5 9 (e := (601, .iaload, 1)) rfl
theorem d_law_602 : decode code 602 = .ok (.invokevirtual 77, 3) := lw_dk lw_okI_5 10 (e := (602, .invokevirtual 77, 3)) rfl
theorem d_law_605 : decode code 605 = .ok (.aload_n 2, 1) := lw_dk lw_okI_5 11 (e := (605, .aload_n 2, 1)) rfl
theorem d_law_606 : decode code 606 = .ok (.aload_n 0, 1) := lw_dk lw_okI_5 12 (e := (606, .aload_n 0, 1)) rfl
theorem d_law_607 : decode code 607 = .ok (.iload_n 3, 1) := lw_dk lw_okI_5 13 (e := (607, .iload_n 3, 1)) rfl
theorem d_law_608 : decode code 608 = .ok (.iconst 1, 1) := lw_dk lw_okI_5 14 (e := (608, .iconst 1, 1)) rfl
theorem d_law_609 : decode code 609 = .ok (.iadd, 1) := lw_dk lw_okI_5 15 (e := (609, .iadd, 1)) rfl
theorem d_law_610 : decode code 610 = .ok (.iaload, 1) := lw_dk lw_okI_5 16 (e := (610, .iaload, 1)) rfl
theorem d_law_611 : decode code 611 = .ok (.aload_n 0, 1) := lw_dk lw_okI_5 17 (e := (611, .aload_n 0, 1)) rfl
theorem d_law_612 : decode code 612 = .ok (.iload_n 3, 1) := lw_dk lw_okI_5 18 (e := (612, .iload_n 3, 1)) rfl
theorem d_law_613 : decode code 613 = .ok (.iconst 2, 1) := lw_dk lw_okI_5 19 (e := (613, .iconst 2, 1)) rfl
theorem d_law_614 : decode code 614 = .ok (.iadd, 1) := lw_dk lw_okI_5 20 (e := (614, .iadd, 1)) rfl
theorem d_law_615 : decode code 615 = .ok (.iaload, 1) := lw_dk lw_okI_5 21 (e := (615, .iaload, 1)) rfl
theorem d_law_616 : decode code 616 = .ok (.invokevirtual 80, 3) := lw_dk lw_okI_5 22 (e := (616, .invokevirtual 80, 3)) rfl
theorem d_law_619 : decode code 619 = .ok (.if_icmp .eq 590, 3) := lw_dk lw_okI_5 23 (e := (619, .if_icmp .eq 590, 3)) rfl
theorem d_law_622 : decode code 622 = .ok (.iconst 0, 1) := lw_dk lw_okI_5 24 (e := (622, .iconst 0, 1)) rfl
theorem d_law_623 : decode code 623 = .ok (.ireturn, 1) := lw_dk lw_okI_5 25 (e := (623, .ireturn, 1)) rfl
theorem d_law_624 : decode code 624 = .ok (.aload_n 1, 1) := lw_dk lw_okI_5 26 (e := (624, .aload_n 1, 1)) rfl
theorem d_law_625 : decode code 625 = .ok (.aload_n 0, 1) := lw_dk lw_okI_5 27 (e := (625, .aload_n 0, 1)) rfl
theorem d_law_626 : decode code 626 = .ok (.iload_n 3, 1) := lw_dk lw_okI_5 28 (e := (626, .iload_n 3, 1)) rfl
theorem d_law_627 : decode code 627 = .ok (.iconst 1, 1) := lw_dk lw_okI_5 29 (e := (627, .iconst 1, 1)) rfl
theorem d_law_628 : decode code 628 = .ok (.iadd, 1) := lw_dk lw_okI_5 30 (e := (628, .iadd, 1)) rfl
theorem d_law_629 : decode code 629 = .ok (.iaload, 1) := lw_dk lw_okI_5 31 (e := (629, .iaload, 1)) rfl
theorem d_law_630 : decode code 630 = .ok (.invokevirtual 81, 3) := lw_dk lw_okI_5 32 (e := (630, .invokevirtual 81, 3)) rfl
theorem d_law_633 : decode code 633 = .ok (.aload_n 2, 1) := lw_dk lw_okI_5 33 (e := (633, .aload_n 2, 1)) rfl
theorem d_law_634 : decode code 634 = .ok (.aload_n 0, 1) := lw_dk lw_okI_5 34 (e := (634, .aload_n 0, 1)) rfl
theorem d_law_635 : decode code 635 = .ok (.iload_n 3, 1) := lw_dk lw_okI_5 35 (e := (635, .iload_n 3, 1)) rfl
theorem d_law_636 : decode code 636 = .ok (.iconst 1, 1) := lw_dk lw_okI_5 36 (e := (636, .iconst 1, 1)) rfl
theorem d_law_637 : decode code 637 = .ok (.iadd, 1) := lw_dk lw_okI_5 37 (e := (637, .iadd, 1)) rfl
theorem d_law_638 : decode code 638 = .ok (.iaload, 1) := lw_dk lw_okI_5 38 (e := (638, .iaload, 1)) rfl
theorem d_law_639 : decode code 639 = .ok (.invokevirtual 84, 3) := lw_dk lw_okI_5 39 (e := (639, .invokevirtual 84, 3)) rfl
theorem d_law_642 : decode code 642 = .ok (.if_icmp .eq 567, 3) := lw_dk lw_okI_5 40 (e := (642, .if_icmp .eq 567, 3)) rfl
theorem d_law_645 : decode code 645 = .ok (.iconst 0, 1) := lw_dk lw_okI_5 41 (e := (645, .iconst 0, 1)) rfl
theorem d_law_646 : decode code 646 = .ok (.ireturn, 1) := lw_dk lw_okI_5 42 (e := (646, .ireturn, 1)) rfl
theorem d_law_647 : decode code 647 = .ok (.aload_n 1, 1) := lw_dk lw_okI_5 43 (e := (647, .aload_n 1, 1)) rfl
theorem d_law_648 : decode code 648 = .ok (.aload_n 0, 1) := lw_dk lw_okI_5 44 (e := (648, .aload_n 0, 1)) rfl
theorem d_law_649 : decode code 649 = .ok (.iload_n 3, 1) := lw_dk lw_okI_5 45 (e := (649, .iload_n 3, 1)) rfl
theorem d_law_650 : decode code 650 = .ok (.iconst 1, 1) := lw_dk lw_okI_5 46 (e := (650, .iconst 1, 1)) rfl
theorem d_law_651 : decode code 651 = .ok (.iadd, 1) := lw_dk lw_okI_5 47 (e := (651, .iadd, 1)) rfl
theorem d_law_652 : decode code 652 = .ok (.iaload, 1) := lw_dk lw_okI_5 48 (e := (652, .iaload, 1)) rfl
theorem d_law_653 : decode code 653 = .ok (.aload_n 0, 1) := lw_dk lw_okI_5 49 (e := (653, .aload_n 0, 1)) rfl
theorem d_law_654 : decode code 654 = .ok (.iload_n 3, 1) := lw_dk lw_okI_5 50 (e := (654, .iload_n 3, 1)) rfl
theorem d_law_655 : decode code 655 = .ok (.iconst 2, 1) := lw_dk lw_okI_5 51 (e := (655, .iconst 2, 1)) rfl
theorem d_law_656 : decode code 656 = .ok (.iadd, 1) := lw_dk lw_okI_5 52 (e := (656, .iadd, 1)) rfl
theorem d_law_657 : decode code 657 = .ok (.iaload, 1) := lw_dk lw_okI_5 53 (e := (657, .iaload, 1)) rfl
theorem d_law_658 : decode code 658 = .ok (.invokevirtual 85, 3) := lw_dk lw_okI_5 54 (e := (658, .invokevirtual 85, 3)) rfl
theorem d_law_661 : decode code 661 = .ok (.aload_n 2, 1) := lw_dk lw_okI_5 55 (e := (661, .aload_n 2, 1)) rfl
theorem d_law_662 : decode code 662 = .ok (.aload_n 0, 1) := lw_dk lw_okI_5 56 (e := (662, .aload_n 0, 1)) rfl
theorem d_law_663 : decode code 663 = .ok (.iload_n 3, 1) := lw_dk lw_okI_5 57 (e := (663, .iload_n 3, 1)) rfl
theorem d_law_664 : decode code 664 = .ok (.iconst 1, 1) := lw_dk lw_okI_5 58 (e := (664, .iconst 1, 1)) rfl
theorem d_law_665 : decode code 665 = .ok (.iadd, 1) := lw_dk lw_okI_5 59 (e := (665, .iadd, 1)) rfl
theorem d_law_666 : decode code 666 = .ok (.iaload, 1) := lw_dk lw_okI_5 60 (e := (666, .iaload, 1)) rfl
theorem d_law_667 : decode code 667 = .ok (.aload_n 0, 1) := lw_dk lw_okI_5 61 (e := (667, .aload_n 0, 1)) rfl
theorem d_law_668 : decode code 668 = .ok (.iload_n 3, 1) := lw_dk lw_okI_5 62 (e := (668, .iload_n 3, 1)) rfl
theorem d_law_669 : decode code 669 = .ok (.iconst 2, 1) := lw_dk lw_okI_5 63 (e := (669, .iconst 2, 1)) rfl
theorem d_law_670 : decode code 670 = .ok (.iadd, 1) := lw_dk lw_okI_6 0 (e := (670, .iadd, 1)) rfl
theorem d_law_671 : decode code 671 = .ok (.iaload, 1) := lw_dk lw_okI_6 1 (e := (671, .iaload, 1)) rfl
theorem d_law_672 : decode code 672 = .ok (.invokevirtual 88, 3) := lw_dk lw_okI_6 2 (e := (672, .invokevirtual 88, 3)) rfl
theorem d_law_675 : decode code 675 = .ok (.if_icmp .eq 534, 3) := lw_dk lw_okI_6 3 (e := (675, .if_icmp .eq 534, 3)) rfl
theorem d_law_678 : decode code 678 = .ok (.iconst 0, 1) := lw_dk lw_okI_6 4 (e := (678, .iconst 0, 1)) rfl
theorem d_law_679 : decode code 679 = .ok (.ireturn, 1) := lw_dk lw_okI_6 5 (e := (679, .ireturn, 1)) rfl
theorem d_law_680 : decode code 680 = .ok (.aload_n 1, 1) := lw_dk lw_okI_6 6 (e := (680, .aload_n 1, 1)) rfl
theorem d_law_681 : decode code 681 = .ok (.aload_n 0, 1) := lw_dk lw_okI_6 7 (e := (681, .aload_n 0, 1)) rfl
theorem d_law_682 : decode code 682 = .ok (.iload_n 3, 1) := lw_dk lw_okI_6 8 (e := (682, .iload_n 3, 1)) rfl
theorem d_law_683 : decode code 683 = .ok (.iconst 1, 1) := lw_dk lw_okI_6 9 (e := (683, .iconst 1, 1)) rfl
theorem d_law_684 : decode code 684 = .ok (.iadd, 1) := lw_dk lw_okI_6 10 (e := (684, .iadd, 1)) rfl
theorem d_law_685 : decode code 685 = .ok (.iaload, 1) := lw_dk lw_okI_6 11 (e := (685, .iaload, 1)) rfl
theorem d_law_686 : decode code 686 = .ok (.aload_n 0, 1) := lw_dk lw_okI_6 12 (e := (686, .aload_n 0, 1)) rfl
theorem d_law_687 : decode code 687 = .ok (.iload_n 3, 1) := lw_dk lw_okI_6 13 (e := (687, .iload_n 3, 1)) rfl
theorem d_law_688 : decode code 688 = .ok (.iconst 2, 1) := lw_dk lw_okI_6 14 (e := (688, .iconst 2, 1)) rfl
theorem d_law_689 : decode code 689 = .ok (.iadd, 1) := lw_dk lw_okI_6 15 (e := (689, .iadd, 1)) rfl
theorem d_law_690 : decode code 690 = .ok (.iaload, 1) := lw_dk lw_okI_6 16 (e := (690, .iaload, 1)) rfl
theorem d_law_691 : decode code 691 = .ok (.aload_n 0, 1) := lw_dk lw_okI_6 17 (e := (691, .aload_n 0, 1)) rfl
theorem d_law_692 : decode code 692 = .ok (.iload_n 3, 1) := lw_dk lw_okI_6 18 (e := (692, .iload_n 3, 1)) rfl
theorem d_law_693 : decode code 693 = .ok (.iconst 3, 1) := lw_dk lw_okI_6 19 (e := (693, .iconst 3, 1)) rfl
theorem d_law_694 : decode code 694 = .ok (.iadd, 1) := lw_dk lw_okI_6 20 (e := (694, .iadd, 1)) rfl
theorem d_law_695 : decode code 695 = .ok (.iaload, 1) := lw_dk lw_okI_6 21 (e := (695, .iaload, 1)) rfl
theorem d_law_696 : decode code 696 = .ok (.invokevirtual 89, 3) := lw_dk lw_okI_6 22 (e := (696, .invokevirtual 89, 3)) rfl
theorem d_law_699 : decode code 699 = .ok (.aload_n 2, 1) := lw_dk lw_okI_6 23 (e := (699, .aload_n 2, 1)) rfl
theorem d_law_700 : decode code 700 = .ok (.aload_n 0, 1) := lw_dk lw_okI_6 24 (e := (700, .aload_n 0, 1)) rfl
theorem d_law_701 : decode code 701 = .ok (.iload_n 3, 1) := lw_dk lw_okI_6 25 (e := (701, .iload_n 3, 1)) rfl
theorem d_law_702 : decode code 702 = .ok (.iconst 1, 1) := lw_dk lw_okI_6 26 (e := (702, .iconst 1, 1)) rfl
theorem d_law_703 : decode code 703 = .ok (.iadd, 1) := lw_dk lw_okI_6 27 (e := (703, .iadd, 1)) rfl
theorem d_law_704 : decode code 704 = .ok (.iaload, 1) := lw_dk lw_okI_6 28 (e := (704, .iaload, 1)) rfl
theorem d_law_705 : decode code 705 = .ok (.aload_n 0, 1) := lw_dk lw_okI_6 29 (e := (705, .aload_n 0, 1)) rfl
theorem d_law_706 : decode code 706 = .ok (.iload_n 3, 1) := lw_dk lw_okI_6 30 (e := (706, .iload_n 3, 1)) rfl
theorem d_law_707 : decode code 707 = .ok (.iconst 2, 1) := lw_dk lw_okI_6 31 (e := (707, .iconst 2, 1)) rfl
theorem d_law_708 : decode code 708 = .ok (.iadd, 1) := lw_dk lw_okI_6 32 (e := (708, .iadd, 1)) rfl
theorem d_law_709 : decode code 709 = .ok (.iaload, 1) := lw_dk lw_okI_6 33 (e := (709, .iaload, 1)) rfl
theorem d_law_710 : decode code 710 = .ok (.aload_n 0, 1) := lw_dk lw_okI_6 34 (e := (710, .aload_n 0, 1)) rfl
theorem d_law_711 : decode code 711 = .ok (.iload_n 3, 1) := lw_dk lw_okI_6 35 (e := (711, .iload_n 3, 1)) rfl
theorem d_law_712 : decode code 712 = .ok (.iconst 3, 1) := lw_dk lw_okI_6 36 (e := (712, .iconst 3, 1)) rfl
theorem d_law_713 : decode code 713 = .ok (.iadd, 1) := lw_dk lw_okI_6 37 (e := (713, .iadd, 1)) rfl
theorem d_law_714 : decode code 714 = .ok (.iaload, 1) := lw_dk lw_okI_6 38 (e := (714, .iaload, 1)) rfl
theorem d_law_715 : decode code 715 = .ok (.invokevirtual 93, 3) := lw_dk lw_okI_6 39 (e := (715, .invokevirtual 93, 3)) rfl
theorem d_law_718 : decode code 718 = .ok (.if_icmp .eq 491, 3) := lw_dk lw_okI_6 40 (e := (718, .if_icmp .eq 491, 3)) rfl
theorem d_law_721 : decode code 721 = .ok (.iconst 0, 1) := lw_dk lw_okI_6 41 (e := (721, .iconst 0, 1)) rfl
theorem d_law_722 : decode code 722 = .ok (.ireturn, 1) := lw_dk lw_okI_6 42 (e := (722, .ireturn, 1)) rfl
theorem d_law_723 : decode code 723 = .ok (.aload_n 1, 1) := lw_dk lw_okI_6 43 (e := (723, .aload_n 1, 1)) rfl
theorem d_law_724 : decode code 724 = .ok (.aload_n 0, 1) := lw_dk lw_okI_6 44 (e := (724, .aload_n 0, 1)) rfl
theorem d_law_725 : decode code 725 = .ok (.iload_n 3, 1) := lw_dk lw_okI_6 45 (e := (725, .iload_n 3, 1)) rfl
theorem d_law_726 : decode code 726 = .ok (.iconst 1, 1) := lw_dk lw_okI_6 46 (e := (726, .iconst 1, 1)) rfl
theorem d_law_727 : decode code 727 = .ok (.iadd, 1) := lw_dk lw_okI_6 47 (e := (727, .iadd, 1)) rfl
theorem d_law_728 : decode code 728 = .ok (.iaload, 1) := lw_dk lw_okI_6 48 (e := (728, .iaload, 1)) rfl
theorem d_law_729 : decode code 729 = .ok (.aload_n 0, 1) := lw_dk lw_okI_6 49 (e := (729, .aload_n 0, 1)) rfl
theorem d_law_730 : decode code 730 = .ok (.iload_n 3, 1) := lw_dk lw_okI_6 50 (e := (730, .iload_n 3, 1)) rfl
theorem d_law_731 : decode code 731 = .ok (.iconst 2, 1) := lw_dk lw_okI_6 51 (e := (731, .iconst 2, 1)) rfl
theorem d_law_732 : decode code 732 = .ok (.iadd, 1) := lw_dk lw_okI_6 52 (e := (732, .iadd, 1)) rfl
theorem d_law_733 : decode code 733 = .ok (.iaload, 1) := lw_dk lw_okI_6 53 (e := (733, .iaload, 1)) rfl
theorem d_law_734 : decode code 734 = .ok (.invokevirtual 94, 3) := lw_dk lw_okI_6 54 (e := (734, .invokevirtual 94, 3)) rfl
theorem d_law_737 : decode code 737 = .ok (.aload_n 2, 1) := lw_dk lw_okI_6 55 (e := (737, .aload_n 2, 1)) rfl
theorem d_law_738 : decode code 738 = .ok (.aload_n 0, 1) := lw_dk lw_okI_6 56 (e := (738, .aload_n 0, 1)) rfl
theorem d_law_739 : decode code 739 = .ok (.iload_n 3, 1) := lw_dk lw_okI_6 57 (e := (739, .iload_n 3, 1)) rfl
theorem d_law_740 : decode code 740 = .ok (.iconst 1, 1) := lw_dk lw_okI_6 58 (e := (740, .iconst 1, 1)) rfl
theorem d_law_741 : decode code 741 = .ok (.iadd, 1) := lw_dk lw_okI_6 59 (e := (741, .iadd, 1)) rfl
theorem d_law_742 : decode code 742 = .ok (.iaload, 1) := lw_dk lw_okI_6 60 (e := (742, .iaload, 1)) rfl
theorem d_law_743 : decode code 743 = .ok (.aload_n 0, 1) := lw_dk lw_okI_6 61 (e := (743, .aload_n 0, 1)) rfl
theorem d_law_744 : decode code 744 = .ok (.iload_n 3, 1) := lw_dk lw_okI_6 62 (e := (744, .iload_n 3, 1)) rfl
theorem d_law_745 : decode code 745 = .ok (.iconst 2, 1) := lw_dk lw_okI_6 63 (e := (745, .iconst 2, 1)) rfl
theorem d_law_746 : decode code 746 = .ok (.iadd, 1) := lw_dk lw_okI_7 0 (e := (746, .iadd, 1)) rfl
theorem d_law_747 : decode code 747 = .ok (.iaload, 1) := lw_dk lw_okI_7 1 (e := (747, .iaload, 1)) rfl
theorem d_law_748 : decode code 748 = .ok (.invokevirtual 97, 3) := lw_dk lw_okI_7 2 (e := (748, .invokevirtual 97, 3)) rfl
theorem d_law_751 : decode code 751 = .ok (.if_icmp .eq 458, 3) := lw_dk lw_okI_7 3 (e := (751, .if_icmp .eq 458, 3)) rfl
theorem d_law_754 : decode code 754 = .ok (.iconst 0, 1) := lw_dk lw_okI_7 4 (e := (754, .iconst 0, 1)) rfl
theorem d_law_755 : decode code 755 = .ok (.ireturn, 1) := lw_dk lw_okI_7 5 (e := (755, .ireturn, 1)) rfl
theorem d_law_756 : decode code 756 = .ok (.aload_n 1, 1) := lw_dk lw_okI_7 6 (e := (756, .aload_n 1, 1)) rfl
theorem d_law_757 : decode code 757 = .ok (.aload_n 0, 1) := lw_dk lw_okI_7 7 (e := (757, .aload_n 0, 1)) rfl
theorem d_law_758 : decode code 758 = .ok (.iload_n 3, 1) := lw_dk lw_okI_7 8 (e := (758, .iload_n 3, 1)) rfl
theorem d_law_759 : decode code 759 = .ok (.iconst 1, 1) := lw_dk lw_okI_7 9 (e := (759, .iconst 1, 1)) rfl
theorem d_law_760 : decode code 760 = .ok (.iadd, 1) := lw_dk lw_okI_7 10 (e := (760, .iadd, 1)) rfl
theorem d_law_761 : decode code 761 = .ok (.iaload, 1) := lw_dk lw_okI_7 11 (e := (761, .iaload, 1)) rfl
theorem d_law_762 : decode code 762 = .ok (.aload_n 0, 1) := lw_dk lw_okI_7 12 (e := (762, .aload_n 0, 1)) rfl
theorem d_law_763 : decode code 763 = .ok (.iload_n 3, 1) := lw_dk lw_okI_7 13 (e := (763, .iload_n 3, 1)) rfl
theorem d_law_764 : decode code 764 = .ok (.iconst 2, 1) := lw_dk lw_okI_7 14 (e := (764, .iconst 2, 1)) rfl
theorem d_law_765 : decode code 765 = .ok (.iadd, 1) := lw_dk lw_okI_7 15 (e := (765, .iadd, 1)) rfl
theorem d_law_766 : decode code 766 = .ok (.iaload, 1) := lw_dk lw_okI_7 16 (e := (766, .iaload, 1)) rfl
theorem d_law_767 : decode code 767 = .ok (.invokevirtual 98, 3) := lw_dk lw_okI_7 17 (e := (767, .invokevirtual 98, 3)) rfl
theorem d_law_770 : decode code 770 = .ok (.aload_n 2, 1) := lw_dk lw_okI_7 18 (e := (770, .aload_n 2, 1)) rfl
theorem d_law_771 : decode code 771 = .ok (.aload_n 0, 1) := lw_dk lw_okI_7 19 (e := (771, .aload_n 0, 1)) rfl
theorem d_law_772 : decode code 772 = .ok (.iload_n 3, 1) := lw_dk lw_okI_7 20 (e := (772, .iload_n 3, 1)) rfl
theorem d_law_773 : decode code 773 = .ok (.iconst 1, 1) := lw_dk lw_okI_7 21 (e := (773, .iconst 1, 1)) rfl
theorem d_law_774 : decode code 774 = .ok (.iadd, 1) := lw_dk lw_okI_7 22 (e := (774, .iadd, 1)) rfl
theorem d_law_775 : decode code 775 = .ok (.iaload, 1) := lw_dk lw_okI_7 23 (e := (775, .iaload, 1)) rfl
theorem d_law_776 : decode code 776 = .ok (.aload_n 0, 1) := lw_dk lw_okI_7 24 (e := (776, .aload_n 0, 1)) rfl
theorem d_law_777 : decode code 777 = .ok (.iload_n 3, 1) := lw_dk lw_okI_7 25 (e := (777, .iload_n 3, 1)) rfl
theorem d_law_778 : decode code 778 = .ok (.iconst 2, 1) := lw_dk lw_okI_7 26 (e := (778, .iconst 2, 1)) rfl
theorem d_law_779 : decode code 779 = .ok (.iadd, 1) := lw_dk lw_okI_7 27 (e := (779, .iadd, 1)) rfl
theorem d_law_780 : decode code 780 = .ok (.iaload, 1) := lw_dk lw_okI_7 28 (e := (780, .iaload, 1)) rfl
theorem d_law_781 : decode code 781 = .ok (.invokevirtual 101, 3) := lw_dk lw_okI_7 29 (e := (781, .invokevirtual 101, 3)) rfl
theorem d_law_784 : decode code 784 = .ok (.if_icmp .eq 425, 3) := lw_dk lw_okI_7 30 (e := (784, .if_icmp .eq 425, 3)) rfl
theorem d_law_787 : decode code 787 = .ok (.iconst 0, 1) := lw_dk lw_okI_7 31 (e := (787, .iconst 0, 1)) rfl
theorem d_law_788 : decode code 788 = .ok (.ireturn, 1) := lw_dk lw_okI_7 32 (e := (788, .ireturn, 1)) rfl
theorem d_law_789 : decode code 789 = .ok (.aload_n 1, 1) := lw_dk lw_okI_7 33 (e := (789, .aload_n 1, 1)) rfl
theorem d_law_790 : decode code 790 = .ok (.aload_n 0, 1) := lw_dk lw_okI_7 34 (e := (790, .aload_n 0, 1)) rfl
theorem d_law_791 : decode code 791 = .ok (.iload_n 3, 1) := lw_dk lw_okI_7 35 (e := (791, .iload_n 3, 1)) rfl
theorem d_law_792 : decode code 792 = .ok (.iconst 1, 1) := lw_dk lw_okI_7 36 (e := (792, .iconst 1, 1)) rfl
theorem d_law_793 : decode code 793 = .ok (.iadd, 1) := lw_dk lw_okI_7 37 (e := (793, .iadd, 1)) rfl
theorem d_law_794 : decode code 794 = .ok (.iaload, 1) := lw_dk lw_okI_7 38 (e := (794, .iaload, 1)) rfl
theorem d_law_795 : decode code 795 = .ok (.aload_n 0, 1) := lw_dk lw_okI_7 39 (e := (795, .aload_n 0, 1)) rfl
theorem d_law_796 : decode code 796 = .ok (.iload_n 3, 1) := lw_dk lw_okI_7 40 (e := (796, .iload_n 3, 1)) rfl
theorem d_law_797 : decode code 797 = .ok (.iconst 2, 1) := lw_dk lw_okI_7 41 (e := (797, .iconst 2, 1)) rfl
theorem d_law_798 : decode code 798 = .ok (.iadd, 1) := lw_dk lw_okI_7 42 (e := (798, .iadd, 1)) rfl
theorem d_law_799 : decode code 799 = .ok (.iaload, 1) := lw_dk lw_okI_7 43 (e := (799, .iaload, 1)) rfl
theorem d_law_800 : decode code 800 = .ok (.invokevirtual 102, 3) := lw_dk lw_okI_7 44 (e := (800, .invokevirtual 102, 3)) rfl
theorem d_law_803 : decode code 803 = .ok (.aload_n 2, 1) := lw_dk lw_okI_7 45 (e := (803, .aload_n 2, 1)) rfl
theorem d_law_804 : decode code 804 = .ok (.aload_n 0, 1) := lw_dk lw_okI_7 46 (e := (804, .aload_n 0, 1)) rfl
theorem d_law_805 : decode code 805 = .ok (.iload_n 3, 1) := lw_dk lw_okI_7 47 (e := (805, .iload_n 3, 1)) rfl
theorem d_law_806 : decode code 806 = .ok (.iconst 1, 1) := lw_dk lw_okI_7 48 (e := (806, .iconst 1, 1)) rfl
theorem d_law_807 : decode code 807 = .ok (.iadd, 1) := lw_dk lw_okI_7 49 (e := (807, .iadd, 1)) rfl
theorem d_law_808 : decode code 808 = .ok (.iaload, 1) := lw_dk lw_okI_7 50 (e := (808, .iaload, 1)) rfl
theorem d_law_809 : decode code 809 = .ok (.aload_n 0, 1) := lw_dk lw_okI_7 51 (e := (809, .aload_n 0, 1)) rfl
theorem d_law_810 : decode code 810 = .ok (.iload_n 3, 1) := lw_dk lw_okI_7 52 (e := (810, .iload_n 3, 1)) rfl
theorem d_law_811 : decode code 811 = .ok (.iconst 2, 1) := lw_dk lw_okI_7 53 (e := (811, .iconst 2, 1)) rfl
theorem d_law_812 : decode code 812 = .ok (.iadd, 1) := lw_dk lw_okI_7 54 (e := (812, .iadd, 1)) rfl
theorem d_law_813 : decode code 813 = .ok (.iaload, 1) := lw_dk lw_okI_7 55 (e := (813, .iaload, 1)) rfl
theorem d_law_814 : decode code 814 = .ok (.invokevirtual 105, 3) := lw_dk lw_okI_7 56 (e := (814, .invokevirtual 105, 3)) rfl
theorem d_law_817 : decode code 817 = .ok (.if_icmp .eq 392, 3) := lw_dk lw_okI_7 57 (e := (817, .if_icmp .eq 392, 3)) rfl
theorem d_law_820 : decode code 820 = .ok (.iconst 0, 1) := lw_dk lw_okI_7 58 (e := (820, .iconst 0, 1)) rfl
theorem d_law_821 : decode code 821 = .ok (.ireturn, 1) := lw_dk lw_okI_7 59 (e := (821, .ireturn, 1)) rfl
theorem d_law_822 : decode code 822 = .ok (.aload_n 1, 1) := lw_dk lw_okI_7 60 (e := (822, .aload_n 1, 1)) rfl
theorem d_law_823 : decode code 823 = .ok (.aload_n 0, 1) := lw_dk lw_okI_7 61 (e := (823, .aload_n 0, 1)) rfl
theorem d_law_824 : decode code 824 = .ok (.iload_n 3, 1) := lw_dk lw_okI_7 62 (e := (824, .iload_n 3, 1)) rfl
theorem d_law_825 : decode code 825 = .ok (.iconst 1, 1) := lw_dk lw_okI_7 63 (e := (825, .iconst 1, 1)) rfl
theorem d_law_826 : decode code 826 = .ok (.iadd, 1) := lw_dk lw_okI_8 0 (e := (826, .iadd, 1)) rfl
theorem d_law_827 : decode code 827 = .ok (.iaload, 1) := lw_dk lw_okI_8 1 (e := (827, .iaload, 1)) rfl
theorem d_law_828 : decode code 828 = .ok (.invokevirtual 106, 3) := lw_dk lw_okI_8 2 (e := (828, .invokevirtual 106, 3)) rfl
theorem d_law_831 : decode code 831 = .ok (.aload_n 2, 1) := lw_dk lw_okI_8 3 (e := (831, .aload_n 2, 1)) rfl
theorem d_law_832 : decode code 832 = .ok (.aload_n 0, 1) := lw_dk lw_okI_8 4 (e := (832, .aload_n 0, 1)) rfl
theorem d_law_833 : decode code 833 = .ok (.iload_n 3, 1) := lw_dk lw_okI_8 5 (e := (833, .iload_n 3, 1)) rfl
theorem d_law_834 : decode code 834 = .ok (.iconst 1, 1) := lw_dk lw_okI_8 6 (e := (834, .iconst 1, 1)) rfl
theorem d_law_835 : decode code 835 = .ok (.iadd, 1) := lw_dk lw_okI_8 7 (e := (835, .iadd, 1)) rfl
theorem d_law_836 : decode code 836 = .ok (.iaload, 1) := lw_dk lw_okI_8 8 (e := (836, .iaload, 1)) rfl
theorem d_law_837 : decode code 837 = .ok (.invokevirtual 109, 3) := lw_dk lw_okI_8 9 (e := (837, .invokevirtual 109, 3)) rfl
theorem d_law_840 : decode code 840 = .ok (.if_icmp .eq 369, 3) := lw_dk lw_okI_8 10 (e := (840, .if_icmp .eq 369, 3)) rfl
theorem d_law_843 : decode code 843 = .ok (.iconst 0, 1) := lw_dk lw_okI_8 11 (e := (843, .iconst 0, 1)) rfl
theorem d_law_844 : decode code 844 = .ok (.ireturn, 1) := lw_dk lw_okI_8 12 (e := (844, .ireturn, 1)) rfl
theorem d_law_845 : decode code 845 = .ok (.aload_n 1, 1) := lw_dk lw_okI_8 13 (e := (845, .aload_n 1, 1)) rfl
theorem d_law_846 : decode code 846 = .ok (.aload_n 0, 1) := lw_dk lw_okI_8 14 (e := (846, .aload_n 0, 1)) rfl
theorem d_law_847 : decode code 847 = .ok (.iload_n 3, 1) := lw_dk lw_okI_8 15 (e := (847, .iload_n 3, 1)) rfl
theorem d_law_848 : decode code 848 = .ok (.iconst 1, 1) := lw_dk lw_okI_8 16 (e := (848, .iconst 1, 1)) rfl
theorem d_law_849 : decode code 849 = .ok (.iadd, 1) := lw_dk lw_okI_8 17 (e := (849, .iadd, 1)) rfl
theorem d_law_850 : decode code 850 = .ok (.iaload, 1) := lw_dk lw_okI_8 18 (e := (850, .iaload, 1)) rfl
theorem d_law_851 : decode code 851 = .ok (.invokevirtual 110, 3) := lw_dk lw_okI_8 19 (e := (851, .invokevirtual 110, 3)) rfl
theorem d_law_854 : decode code 854 = .ok (.aload_n 2, 1) := lw_dk lw_okI_8 20 (e := (854, .aload_n 2, 1)) rfl
theorem d_law_855 : decode code 855 = .ok (.aload_n 0, 1) := lw_dk lw_okI_8 21 (e := (855, .aload_n 0, 1)) rfl
theorem d_law_856 : decode code 856 = .ok (.iload_n 3, 1) := lw_dk lw_okI_8 22 (e := (856, .iload_n 3, 1)) rfl
theorem d_law_857 : decode code 857 = .ok (.iconst 1, 1) := lw_dk lw_okI_8 23 (e := (857, .iconst 1, 1)) rfl
theorem d_law_858 : decode code 858 = .ok (.iadd, 1) := lw_dk lw_okI_8 24 (e := (858, .iadd, 1)) rfl
theorem d_law_859 : decode code 859 = .ok (.iaload, 1) := lw_dk lw_okI_8 25 (e := (859, .iaload, 1)) rfl
theorem d_law_860 : decode code 860 = .ok (.invokevirtual 113, 3) := lw_dk lw_okI_8 26 (e := (860, .invokevirtual 113, 3)) rfl
theorem d_law_863 : decode code 863 = .ok (.if_icmp .eq 346, 3) := lw_dk lw_okI_8 27 (e := (863, .if_icmp .eq 346, 3)) rfl
theorem d_law_866 : decode code 866 = .ok (.iconst 0, 1) := lw_dk lw_okI_8 28 (e := (866, .iconst 0, 1)) rfl
theorem d_law_867 : decode code 867 = .ok (.ireturn, 1) := lw_dk lw_okI_8 29 (e := (867, .ireturn, 1)) rfl
theorem d_law_868 : decode code 868 = .ok (.aload_n 1, 1) := lw_dk lw_okI_8 30 (e := (868, .aload_n 1, 1)) rfl
theorem d_law_869 : decode code 869 = .ok (.aload_n 0, 1) := lw_dk lw_okI_8 31 (e := (869, .aload_n 0, 1)) rfl
theorem d_law_870 : decode code 870 = .ok (.iload_n 3, 1) := lw_dk lw_okI_8 32 (e := (870, .iload_n 3, 1)) rfl
theorem d_law_871 : decode code 871 = .ok (.iconst 1, 1) := lw_dk lw_okI_8 33 (e := (871, .iconst 1, 1)) rfl
theorem d_law_872 : decode code 872 = .ok (.iadd, 1) := lw_dk lw_okI_8 34 (e := (872, .iadd, 1)) rfl
theorem d_law_873 : decode code 873 = .ok (.iaload, 1) := lw_dk lw_okI_8 35 (e := (873, .iaload, 1)) rfl
theorem d_law_874 : decode code 874 = .ok (.invokevirtual 114, 3) := lw_dk lw_okI_8 36 (e := (874, .invokevirtual 114, 3)) rfl
theorem d_law_877 : decode code 877 = .ok (.aload_n 2, 1) := lw_dk lw_okI_8 37 (e := (877, .aload_n 2, 1)) rfl
theorem d_law_878 : decode code 878 = .ok (.aload_n 0, 1) := lw_dk lw_okI_8 38 (e := (878, .aload_n 0, 1)) rfl
theorem d_law_879 : decode code 879 = .ok (.iload_n 3, 1) := lw_dk lw_okI_8 39 (e := (879, .iload_n 3, 1)) rfl
theorem d_law_880 : decode code 880 = .ok (.iconst 1, 1) := lw_dk lw_okI_8 40 (e := (880, .iconst 1, 1)) rfl
theorem d_law_881 : decode code 881 = .ok (.iadd, 1) := lw_dk lw_okI_8 41 (e := (881, .iadd, 1)) rfl
theorem d_law_882 : decode code 882 = .ok (.iaload, 1) := lw_dk lw_okI_8 42 (e := (882, .iaload, 1)) rfl
theorem d_law_883 : decode code 883 = .ok (.invokevirtual 117, 3) := lw_dk lw_okI_8 43 (e := (883, .invokevirtual 117, 3)) rfl
theorem d_law_886 : decode code 886 = .ok (.if_icmp .eq 323, 3) := lw_dk lw_okI_8 44 (e := (886, .if_icmp .eq 323, 3)) rfl
theorem d_law_889 : decode code 889 = .ok (.iconst 0, 1) := lw_dk lw_okI_8 45 (e := (889, .iconst 0, 1)) rfl
theorem d_law_890 : decode code 890 = .ok (.ireturn, 1) := lw_dk lw_okI_8 46 (e := (890, .ireturn, 1)) rfl
theorem d_law_891 : decode code 891 = .ok (.aload_n 1, 1) := lw_dk lw_okI_8 47 (e := (891, .aload_n 1, 1)) rfl
theorem d_law_892 : decode code 892 = .ok (.invokevirtual 118, 3) := lw_dk lw_okI_8 48 (e := (892, .invokevirtual 118, 3)) rfl
theorem d_law_895 : decode code 895 = .ok (.aload_n 2, 1) := lw_dk lw_okI_8 49 (e := (895, .aload_n 2, 1)) rfl
theorem d_law_896 : decode code 896 = .ok (.invokevirtual 122, 3) := lw_dk lw_okI_8 50 (e := (896, .invokevirtual 122, 3)) rfl
theorem d_law_899 : decode code 899 = .ok (.if_icmp .eq 310, 3) := lw_dk lw_okI_8 51 (e := (899, .if_icmp .eq 310, 3)) rfl
theorem d_law_902 : decode code 902 = .ok (.iconst 0, 1) := lw_dk lw_okI_8 52 (e := (902, .iconst 0, 1)) rfl
theorem d_law_903 : decode code 903 = .ok (.ireturn, 1) := lw_dk lw_okI_8 53 (e := (903, .ireturn, 1)) rfl
theorem d_law_904 : decode code 904 = .ok (.aload_n 1, 1) := lw_dk lw_okI_8 54 (e := (904, .aload_n 1, 1)) rfl
theorem d_law_905 : decode code 905 = .ok (.invokevirtual 123, 3) := lw_dk lw_okI_8 55 (e := (905, .invokevirtual 123, 3)) rfl
theorem d_law_908 : decode code 908 = .ok (.dstore 4, 2) := lw_dk lw_okI_8 56 (e := (908, .dstore 4, 2)) rfl
theorem d_law_910 : decode code 910 = .ok (.aload_n 2, 1) := lw_dk lw_okI_8 57 (e := (910, .aload_n 2, 1)) rfl
theorem d_law_911 : decode code 911 = .ok (.invokevirtual 127, 3) := lw_dk lw_okI_8 58 (e := (911, .invokevirtual 127, 3)) rfl
theorem d_law_914 : decode code 914 = .ok (.dstore 6, 2) := lw_dk lw_okI_8 59 (e := (914, .dstore 6, 2)) rfl
theorem d_law_916 : decode code 916 = .ok (.dload 4, 2) := lw_dk lw_okI_8 60 (e := (916, .dload 4, 2)) rfl
theorem d_law_918 : decode code 918 = .ok (.dload 6, 2) := lw_dk lw_okI_8 61 (e := (918, .dload 6, 2)) rfl
theorem d_law_920 : decode code 920 = .ok (.dcmp .l, 1) := lw_dk lw_okI_8 62 (e := (920, .dcmp .l, 1)) rfl
theorem d_law_921 : decode code 921 = .ok (.ifCond .eq 21, 3) := lw_dk lw_okI_8 63 (e := (921, .ifCond .eq 21, 3)) rfl
theorem d_law_924 : decode code 924 = .ok (.dload 4, 2) := lw_dk lw_okI_9 0 (e := (924, .dload 4, 2)) rfl
theorem d_law_926 : decode code 926 = .ok (.dload 4, 2) := lw_dk lw_okI_9 1 (e := (926, .dload 4, 2)) rfl
theorem d_law_928 : decode code 928 = .ok (.dcmp .l, 1) := lw_dk lw_okI_9 2 (e := (928, .dcmp .l, 1)) rfl
theorem d_law_929 : decode code 929 = .ok (.ifCond .eq 11, 3) := lw_dk lw_okI_9 3 (e := (929, .ifCond .eq 11, 3)) rfl
theorem d_law_932 : decode code 932 = .ok (.dload 6, 2) := lw_dk lw_okI_9 4 (e := (932, .dload 6, 2)) rfl
theorem d_law_934 : decode code 934 = .ok (.dload 6, 2) := lw_dk lw_okI_9 5 (e := (934, .dload 6, 2)) rfl
theorem d_law_936 : decode code 936 = .ok (.dcmp .l, 1) := lw_dk lw_okI_9 6 (e := (936, .dcmp .l, 1)) rfl
theorem d_law_937 : decode code 937 = .ok (.ifCond .ne 5, 3) := lw_dk lw_okI_9 7 (e := (937, .ifCond .ne 5, 3)) rfl
theorem d_law_940 : decode code 940 = .ok (.iconst 0, 1) := lw_dk lw_okI_9 8 (e := (940, .iconst 0, 1)) rfl
theorem d_law_941 : decode code 941 = .ok (.ireturn, 1) := lw_dk lw_okI_9 9 (e := (941, .ireturn, 1)) rfl
theorem d_law_942 : decode code 942 = .ok (.goto 267, 3) := lw_dk lw_okI_9 10 (e := (942, .goto 267, 3)) rfl
theorem d_law_945 : decode code 945 = .ok (.aload_n 1, 1) := lw_dk lw_okI_9 11 (e := (945, .aload_n 1, 1)) rfl
theorem d_law_946 : decode code 946 = .ok (.invokevirtual 128, 3) := lw_dk lw_okI_9 12 (e := (946, .invokevirtual 128, 3)) rfl
theorem d_law_949 : decode code 949 = .ok (.f2d, 1) := lw_dk lw_okI_9 13 (e := (949, .f2d, 1)) rfl
theorem d_law_950 : decode code 950 = .ok (.dstore 4, 2) := lw_dk lw_okI_9 14 (e := (950, .dstore 4, 2)) rfl
theorem d_law_952 : decode code 952 = .ok (.aload_n 2, 1) := lw_dk lw_okI_9 15 (e := (952, .aload_n 2, 1)) rfl
theorem d_law_953 : decode code 953 = .ok (.invokevirtual 132, 3) := lw_dk lw_okI_9 16 (e := (953, .invokevirtual 132, 3)) rfl
theorem d_law_956 : decode code 956 = .ok (.f2d, 1) := lw_dk lw_okI_9 17 (e := (956, .f2d, 1)) rfl
theorem d_law_957 : decode code 957 = .ok (.dstore 6, 2) := lw_dk lw_okI_9 18 (e := (957, .dstore 6, 2)) rfl
theorem d_law_959 : decode code 959 = .ok (.dload 4, 2) := lw_dk lw_okI_9 19 (e := (959, .dload 4, 2)) rfl
theorem d_law_961 : decode code 961 = .ok (.dload 6, 2) := lw_dk lw_okI_9 20 (e := (961, .dload 6, 2)) rfl
theorem d_law_963 : decode code 963 = .ok (.dcmp .l, 1) := lw_dk lw_okI_9 21 (e := (963, .dcmp .l, 1)) rfl
theorem d_law_964 : decode code 964 = .ok (.ifCond .eq 21, 3) := lw_dk lw_okI_9 22 (e := (964, .ifCond .eq 21, 3)) rfl
theorem d_law_967 : decode code 967 = .ok (.dload 4, 2) := lw_dk lw_okI_9 23 (e := (967, .dload 4, 2)) rfl
theorem d_law_969 : decode code 969 = .ok (.dload 4, 2) := lw_dk lw_okI_9 24 (e := (969, .dload 4, 2)) rfl
theorem d_law_971 : decode code 971 = .ok (.dcmp .l, 1) := lw_dk lw_okI_9 25 (e := (971, .dcmp .l, 1)) rfl
theorem d_law_972 : decode code 972 = .ok (.ifCond .eq 11, 3) := lw_dk lw_okI_9 26 (e := (972, .ifCond .eq 11, 3)) rfl
theorem d_law_975 : decode code 975 = .ok (.dload 6, 2) := lw_dk lw_okI_9 27 (e := (975, .dload 6, 2)) rfl
theorem d_law_977 : decode code 977 = .ok (.dload 6, 2) := lw_dk lw_okI_9 28 (e := (977, .dload 6, 2)) rfl
theorem d_law_979 : decode code 979 = .ok (.dcmp .l, 1) := lw_dk lw_okI_9 29 (e := (979, .dcmp .l, 1)) rfl
theorem d_law_980 : decode code 980 = .ok (.ifCond .ne 5, 3) := lw_dk lw_okI_9 30 (e := (980, .ifCond .ne 5, 3)) rfl
theorem d_law_983 : decode code 983 = .ok (.iconst 0, 1) := lw_dk lw_okI_9 31 (e := (983, .iconst 0, 1)) rfl
theorem d_law_984 : decode code 984 = .ok (.ireturn, 1) := lw_dk lw_okI_9 32 (e := (984, .ireturn, 1)) rfl
theorem d_law_985 : decode code 985 = .ok (.goto 224, 3) := lw_dk lw_okI_9 33 (e := (985, .goto 224, 3)) rfl
theorem d_law_988 : decode code 988 = .ok (.aload_n 1, 1) := lw_dk lw_okI_9 34 (e := (988, .aload_n 1, 1)) rfl
theorem d_law_989 : decode code 989 = .ok (.aload_n 0, 1) := lw_dk lw_okI_9 35 (e := (989, .aload_n 0, 1)) rfl
theorem d_law_990 : decode code 990 = .ok (.iload_n 3, 1) := lw_dk lw_okI_9 36 (e := (990, .iload_n 3, 1)) rfl
theorem d_law_991 : decode code 991 = .ok (.iconst 1, 1) := lw_dk lw_okI_9 37 (e := (991, .iconst 1, 1)) rfl
theorem d_law_992 : decode code 992 = .ok (.iadd, 1) := lw_dk lw_okI_9 38 (e := (992, .iadd, 1)) rfl
theorem d_law_993 : decode code 993 = .ok (.iaload, 1) := lw_dk lw_okI_9 39 (e := (993, .iaload, 1)) rfl
theorem d_law_994 : decode code 994 = .ok (.invokevirtual 133, 3) := lw_dk lw_okI_9 40 (e := (994, .invokevirtual 133, 3)) rfl
theorem d_law_997 : decode code 997 = .ok (.aload_n 2, 1) := lw_dk lw_okI_9 41 (e := (997, .aload_n 2, 1)) rfl
theorem d_law_998 : decode code 998 = .ok (.aload_n 0, 1) := lw_dk lw_okI_9 42 (e := (998, .aload_n 0, 1)) rfl
theorem d_law_999 : decode code 999 = .ok (.iload_n 3, 1) := lw_dk lw_okI_9 43 (e := (999, .iload_n 3, 1)) rfl
theorem d_law_1000 : decode code 1000 = .ok (.iconst 1, 1) := lw_dk lw_okI_9 44 (e := (1000, .iconst 1, 1)) rfl
theorem d_law_1001 : decode code 1001 = .ok (.iadd, 1) := lw_dk lw_okI_9 45 (e := (1001, .iadd, 1)) rfl
theorem d_law_1002 : decode code 1002 = .ok (.iaload, 1) := lw_dk lw_okI_9 46 (e := (1002, .iaload, 1)) rfl
theorem d_law_1003 : decode code 1003 = .ok (.invokevirtual 136, 3) := lw_dk lw_okI_9 47 (e := (1003, .invokevirtual 136, 3)) rfl
theorem d_law_1006 : decode code 1006 = .ok (.if_icmp .eq 203, 3) := lw_dk lw_okI_9 48 (e := (1006, .if_icmp .eq 203, 3)) rfl
theorem d_law_1009 : decode code 1009 = .ok (.iconst 0, 1) := lw_dk lw_okI_9 49 (e := (1009, .iconst 0, 1)) rfl
theorem d_law_1010 : decode code 1010 = .ok (.ireturn, 1) := lw_dk lw_okI_9 50 (e := (1010, .ireturn, 1)) rfl
theorem d_law_1011 : decode code 1011 = .ok (.aload_n 1, 1) := lw_dk lw_okI_9 51 (e := (1011, .aload_n 1, 1)) rfl
theorem d_law_1012 : decode code 1012 = .ok (.aload_n 0, 1) := lw_dk lw_okI_9 52 (e := (1012, .aload_n 0, 1)) rfl
theorem d_law_1013 : decode code 1013 = .ok (.iload_n 3, 1) := lw_dk lw_okI_9 53 (e := (1013, .iload_n 3, 1)) rfl
theorem d_law_1014 : decode code 1014 = .ok (.iconst 1, 1) := lw_dk lw_okI_9 54 (e := (1014, .iconst 1, 1)) rfl
theorem d_law_1015 : decode code 1015 = .ok (.iadd, 1) := lw_dk lw_okI_9 55 (e := (1015, .iadd, 1)) rfl
theorem d_law_1016 : decode code 1016 = .ok (.iaload, 1) := lw_dk lw_okI_9 56 (e := (1016, .iaload, 1)) rfl
theorem d_law_1017 : decode code 1017 = .ok (.invokevirtual 137, 3) := lw_dk lw_okI_9 57 (e := (1017, .invokevirtual 137, 3)) rfl
theorem d_law_1020 : decode code 1020 = .ok (.aload_n 2, 1) := lw_dk lw_okI_9 58 (e := (1020, .aload_n 2, 1)) rfl
theorem d_law_1021 : decode code 1021 = .ok (.aload_n 0, 1) := lw_dk lw_okI_9 59 (e := (1021, .aload_n 0, 1)) rfl
theorem d_law_1022 : decode code 1022 = .ok (.iload_n 3, 1) := lw_dk lw_okI_9 60 (e := (1022, .iload_n 3, 1)) rfl
theorem d_law_1023 : decode code 1023 = .ok (.iconst 1, 1) := lw_dk lw_okI_9 61 (e := (1023, .iconst 1, 1)) rfl
theorem d_law_1024 : decode code 1024 = .ok (.iadd, 1) := lw_dk lw_okI_9 62 (e := (1024, .iadd, 1)) rfl
theorem d_law_1025 : decode code 1025 = .ok (.iaload, 1) := lw_dk lw_okI_9 63 (e := (1025, .iaload, 1)) rfl
theorem d_law_1026 : decode code 1026 = .ok (.invokevirtual 140, 3) := lw_dk lw_okI_10 0 (e := (1026, .invokevirtual 140, 3)) rfl
theorem d_law_1029 : decode code 1029 = .ok (.if_icmp .eq 180, 3) := lw_dk lw_okI_10 1 (e := (1029, .if_icmp .eq 180, 3)) rfl
theorem d_law_1032 : decode code 1032 = .ok (.iconst 0, 1) := lw_dk lw_okI_10 2 (e := (1032, .iconst 0, 1)) rfl
theorem d_law_1033 : decode code 1033 = .ok (.ireturn, 1) := lw_dk lw_okI_10 3 (e := (1033, .ireturn, 1)) rfl
theorem d_law_1034 : decode code 1034 = .ok (.aload_n 1, 1) := lw_dk lw_okI_10 4 (e := (1034, .aload_n 1, 1)) rfl
theorem d_law_1035 : decode code 1035 = .ok (.invokevirtual 141, 3) := lw_dk lw_okI_10 5 (e := (1035, .invokevirtual 141, 3)) rfl
theorem d_law_1038 : decode code 1038 = .ok (.aload_n 2, 1) := lw_dk lw_okI_10 6 (e := (1038, .aload_n 2, 1)) rfl
theorem d_law_1039 : decode code 1039 = .ok (.invokevirtual 144, 3) := lw_dk lw_okI_10 7 (e := (1039, .invokevirtual 144, 3)) rfl
theorem d_law_1042 : decode code 1042 = .ok (.if_icmp .eq 167, 3) := lw_dk lw_okI_10 8 (e := (1042, .if_icmp .eq 167, 3)) rfl
theorem d_law_1045 : decode code 1045 = .ok (.iconst 0, 1) := lw_dk lw_okI_10 9 (e := (1045, .iconst 0, 1)) rfl
theorem d_law_1046 : decode code 1046 = .ok (.ireturn, 1) := lw_dk lw_okI_10 10 (e := (1046, .ireturn, 1)) rfl
theorem d_law_1047 : decode code 1047 = .ok (.aload_n 1, 1) := lw_dk lw_okI_10 11 (e := (1047, .aload_n 1, 1)) rfl
theorem d_law_1048 : decode code 1048 = .ok (.aload_n 0, 1) := lw_dk lw_okI_10 12 (e := (1048, .aload_n 0, 1)) rfl
theorem d_law_1049 : decode code 1049 = .ok (.iload_n 3, 1) := lw_dk lw_okI_10 13 (e := (1049, .iload_n 3, 1)) rfl
theorem d_law_1050 : decode code 1050 = .ok (.iconst 1, 1) := lw_dk lw_okI_10 14 (e := (1050, .iconst 1, 1)) rfl
theorem d_law_1051 : decode code 1051 = .ok (.iadd, 1) := lw_dk lw_okI_10 15 (e := (1051, .iadd, 1)) rfl
theorem d_law_1052 : decode code 1052 = .ok (.iaload, 1) := lw_dk lw_okI_10 16 (e := (1052, .iaload, 1)) rfl
theorem d_law_1053 : decode code 1053 = .ok (.invokevirtual 145, 3) := lw_dk lw_okI_10 17 (e := (1053, .invokevirtual 145, 3)) rfl
theorem d_law_1056 : decode code 1056 = .ok (.aload_n 2, 1) := lw_dk lw_okI_10 18 (e := (1056, .aload_n 2, 1)) rfl
theorem d_law_1057 : decode code 1057 = .ok (.aload_n 0, 1) := lw_dk lw_okI_10 19 (e := (1057, .aload_n 0, 1)) rfl
theorem d_law_1058 : decode code 1058 = .ok (.iload_n 3, 1) := lw_dk lw_okI_10 20 (e := (1058, .iload_n 3, 1)) rfl
theorem d_law_1059 : decode code 1059 = .ok (.iconst 1, 1) := lw_dk lw_okI_10 21 (e := (1059, .iconst 1, 1)) rfl
theorem d_law_1060 : decode code 1060 = .ok (.iadd, 1) := lw_dk lw_okI_10 22 (e := (1060, .iadd, 1)) rfl
theorem d_law_1061 : decode code 1061 = .ok (.iaload, 1) := lw_dk lw_okI_10 23 (e := (1061, .iaload, 1)) rfl
theorem d_law_1062 : decode code 1062 = .ok (.invokevirtual 148, 3) := lw_dk lw_okI_10 24 (e := (1062, .invokevirtual 148, 3)) rfl
theorem d_law_1065 : decode code 1065 = .ok (.if_icmp .eq 144, 3) := lw_dk lw_okI_10 25 (e := (1065, .if_icmp .eq 144, 3)) rfl
theorem d_law_1068 : decode code 1068 = .ok (.iconst 0, 1) := lw_dk lw_okI_10 26 (e := (1068, .iconst 0, 1)) rfl
theorem d_law_1069 : decode code 1069 = .ok (.ireturn, 1) := lw_dk lw_okI_10 27 (e := (1069, .ireturn, 1)) rfl
theorem d_law_1070 : decode code 1070 = .ok (.aload_n 1, 1) := lw_dk lw_okI_10 28 (e := (1070, .aload_n 1, 1)) rfl
theorem d_law_1071 : decode code 1071 = .ok (.aload_n 0, 1) := lw_dk lw_okI_10 29 (e := (1071, .aload_n 0, 1)) rfl
theorem d_law_1072 : decode code 1072 = .ok (.iload_n 3, 1) := lw_dk lw_okI_10 30 (e := (1072, .iload_n 3, 1)) rfl
theorem d_law_1073 : decode code 1073 = .ok (.iconst 1, 1) := lw_dk lw_okI_10 31 (e := (1073, .iconst 1, 1)) rfl
theorem d_law_1074 : decode code 1074 = .ok (.iadd, 1) := lw_dk lw_okI_10 32 (e := (1074, .iadd, 1)) rfl
theorem d_law_1075 : decode code 1075 = .ok (.iaload, 1) := lw_dk lw_okI_10 33 (e := (1075, .iaload, 1)) rfl
theorem d_law_1076 : decode code 1076 = .ok (.i2c, 1) := lw_dk lw_okI_10 34 (e := (1076, .i2c, 1)) rfl
theorem d_law_1077 : decode code 1077 = .ok (.invokevirtual 149, 3) := lw_dk lw_okI_10 35 (e := (1077, .invokevirtual 149, 3)) rfl
theorem d_law_1080 : decode code 1080 = .ok (.aload_n 2, 1) := lw_dk lw_okI_10 36 (e := (1080, .aload_n 2, 1)) rfl
theorem d_law_1081 : decode code 1081 = .ok (.aload_n 0, 1) := lw_dk lw_okI_10 37 (e := (1081, .aload_n 0, 1)) rfl
theorem d_law_1082 : decode code 1082 = .ok (.iload_n 3, 1) := lw_dk lw_okI_10 38 (e := (1082, .iload_n 3, 1)) rfl
theorem d_law_1083 : decode code 1083 = .ok (.iconst 1, 1) := lw_dk lw_okI_10 39 (e := (1083, .iconst 1, 1)) rfl
theorem d_law_1084 : decode code 1084 = .ok (.iadd, 1) := lw_dk lw_okI_10 40 (e := (1084, .iadd, 1)) rfl
theorem d_law_1085 : decode code 1085 = .ok (.iaload, 1) := lw_dk lw_okI_10 41 (e := (1085, .iaload, 1)) rfl
theorem d_law_1086 : decode code 1086 = .ok (.i2c, 1) := lw_dk lw_okI_10 42 (e := (1086, .i2c, 1)) rfl
theorem d_law_1087 : decode code 1087 = .ok (.invokevirtual 152, 3) := lw_dk lw_okI_10 43 (e := (1087, .invokevirtual 152, 3)) rfl
theorem d_law_1090 : decode code 1090 = .ok (.if_icmp .eq 119, 3) := lw_dk lw_okI_10 44 (e := (1090, .if_icmp .eq 119, 3)) rfl
theorem d_law_1093 : decode code 1093 = .ok (.iconst 0, 1) := lw_dk lw_okI_10 45 (e := (1093, .iconst 0, 1)) rfl
theorem d_law_1094 : decode code 1094 = .ok (.ireturn, 1) := lw_dk lw_okI_10 46 (e := (1094, .ireturn, 1)) rfl
theorem d_law_1095 : decode code 1095 = .ok (.aload_n 1, 1) := lw_dk lw_okI_10 47 (e := (1095, .aload_n 1, 1)) rfl
theorem d_law_1096 : decode code 1096 = .ok (.invokevirtual 153, 3) := lw_dk lw_okI_10 48 (e := (1096, .invokevirtual 153, 3)) rfl
theorem d_law_1099 : decode code 1099 = .ok (.aload_n 2, 1) := lw_dk lw_okI_10 49 (e := (1099, .aload_n 2, 1)) rfl
theorem d_law_1100 : decode code 1100 = .ok (.invokevirtual 156, 3) := lw_dk lw_okI_10 50 (e := (1100, .invokevirtual 156, 3)) rfl
theorem d_law_1103 : decode code 1103 = .ok (.if_icmp .eq 106, 3) := lw_dk lw_okI_10 51 (e := (1103, .if_icmp .eq 106, 3)) rfl
theorem d_law_1106 : decode code 1106 = .ok (.iconst 0, 1) := lw_dk lw_okI_10 52 (e := (1106, .iconst 0, 1)) rfl
theorem d_law_1107 : decode code 1107 = .ok (.ireturn, 1) := lw_dk lw_okI_10 53 (e := (1107, .ireturn, 1)) rfl
theorem d_law_1108 : decode code 1108 = .ok (.aload_n 1, 1) := lw_dk lw_okI_10 54 (e := (1108, .aload_n 1, 1)) rfl
theorem d_law_1109 : decode code 1109 = .ok (.invokevirtual 157, 3) := lw_dk lw_okI_10 55 (e := (1109, .invokevirtual 157, 3)) rfl
theorem d_law_1112 : decode code 1112 = .ok (.aload_n 2, 1) := lw_dk lw_okI_10 56 (e := (1112, .aload_n 2, 1)) rfl
theorem d_law_1113 : decode code 1113 = .ok (.invokevirtual 160, 3) := lw_dk lw_okI_10 57 (e := (1113, .invokevirtual 160, 3)) rfl
theorem d_law_1116 : decode code 1116 = .ok (.if_icmp .eq 93, 3) := lw_dk lw_okI_10 58 (e := (1116, .if_icmp .eq 93, 3)) rfl
theorem d_law_1119 : decode code 1119 = .ok (.iconst 0, 1) := lw_dk lw_okI_10 59 (e := (1119, .iconst 0, 1)) rfl
theorem d_law_1120 : decode code 1120 = .ok (.ireturn, 1) := lw_dk lw_okI_10 60 (e := (1120, .ireturn, 1)) rfl
theorem d_law_1121 : decode code 1121 = .ok (.aload_n 1, 1) := lw_dk lw_okI_10 61 (e := (1121, .aload_n 1, 1)) rfl
theorem d_law_1122 : decode code 1122 = .ok (.aload_n 0, 1) := lw_dk lw_okI_10 62 (e := (1122, .aload_n 0, 1)) rfl
theorem d_law_1123 : decode code 1123 = .ok (.iload_n 3, 1) := lw_dk lw_okI_10 63 (e := (1123, .iload_n 3, 1)) rfl
theorem d_law_1124 : decode code 1124 = .ok (.iconst 1, 1) := lw_dk lw_okI_11 0 (e := (1124, .iconst 1, 1)) rfl
theorem d_law_1125 : decode code 1125 = .ok (.iadd, 1) := lw_dk lw_okI_11 1 (e := (1125, .iadd, 1)) rfl
theorem d_law_1126 : decode code 1126 = .ok (.iaload, 1) := lw_dk lw_okI_11 2 (e := (1126, .iaload, 1)) rfl
theorem d_law_1127 : decode code 1127 = .ok (.aload_n 0, 1) := lw_dk lw_okI_11 3 (e := (1127, .aload_n 0, 1)) rfl
theorem d_law_1128 : decode code 1128 = .ok (.iload_n 3, 1) := lw_dk lw_okI_11 4 (e := (1128, .iload_n 3, 1)) rfl
theorem d_law_1129 : decode code 1129 = .ok (.iconst 2, 1) := lw_dk lw_okI_11 5 (e := (1129, .iconst 2, 1)) rfl
theorem d_law_1130 : decode code 1130 = .ok (.iadd, 1) := lw_dk lw_okI_11 6 (e := (1130, .iadd, 1)) rfl
theorem d_law_1131 : decode code 1131 = .ok (.iaload, 1) := lw_dk lw_okI_11 7 (e := (1131, .iaload, 1)) rfl
theorem d_law_1132 : decode code 1132 = .ok (.ifCond .eq 7, 3) := lw_dk lw_okI_11 8 (e := (1132, .ifCond .eq 7, 3)) rfl
theorem d_law_1135 : decode code 1135 = .ok (.iconst 1, 1) := lw_dk lw_okI_11 9 (e := (1135, .iconst 1, 1)) rfl
theorem d_law_1136 : decode code 1136 = .ok (.goto 4, 3) := lw_dk lw_okI_11 10 (e := (1136, .goto 4, 3)) rfl
theorem d_law_1139 : decode code 1139 = .ok (.iconst 0, 1) := lw_dk lw_okI_11 11 (e := (1139, .iconst 0, 1)) rfl
theorem d_law_1140 : decode code 1140 = .ok (.invokevirtual 161, 3) := lw_dk lw_okI_11 12 (e := (1140, .invokevirtual 161, 3)) rfl
theorem d_law_1143 : decode code 1143 = .ok (.aload_n 2, 1) := lw_dk lw_okI_11 13 (e := (1143, .aload_n 2, 1)) rfl
theorem d_law_1144 : decode code 1144 = .ok (.aload_n 0, 1) := lw_dk lw_okI_11 14 (e := (1144, .aload_n 0, 1)) rfl
theorem d_law_1145 : decode code 1145 = .ok (.iload_n 3, 1) := lw_dk lw_okI_11 15 (e := (1145, .iload_n 3, 1)) rfl
theorem d_law_1146 : decode code 1146 = .ok (.iconst 1, 1) := lw_dk lw_okI_11 16 (e := (1146, .iconst 1, 1)) rfl
theorem d_law_1147 : decode code 1147 = .ok (.iadd, 1) := lw_dk lw_okI_11 17 (e := (1147, .iadd, 1)) rfl
theorem d_law_1148 : decode code 1148 = .ok (.iaload, 1) := lw_dk lw_okI_11 18 (e := (1148, .iaload, 1)) rfl
theorem d_law_1149 : decode code 1149 = .ok (.aload_n 0, 1) := lw_dk lw_okI_11 19 (e := (1149, .aload_n 0, 1)) rfl
theorem d_law_1150 : decode code 1150 = .ok (.iload_n 3, 1) := lw_dk lw_okI_11 20 (e := (1150, .iload_n 3, 1)) rfl
theorem d_law_1151 : decode code 1151 = .ok (.iconst 2, 1) := lw_dk lw_okI_11 21 (e := (1151, .iconst 2, 1)) rfl
theorem d_law_1152 : decode code 1152 = .ok (.iadd, 1) := lw_dk lw_okI_11 22 (e := (1152, .iadd, 1)) rfl
theorem d_law_1153 : decode code 1153 = .ok (.iaload, 1) := lw_dk lw_okI_11 23 (e := (1153, .iaload, 1)) rfl
theorem d_law_1154 : decode code 1154 = .ok (.ifCond .eq 7, 3) := lw_dk lw_okI_11 24 (e := (1154, .ifCond .eq 7, 3)) rfl
theorem d_law_1157 : decode code 1157 = .ok (.iconst 1, 1) := lw_dk lw_okI_11 25 (e := (1157, .iconst 1, 1)) rfl
theorem d_law_1158 : decode code 1158 = .ok (.goto 4, 3) := lw_dk lw_okI_11 26 (e := (1158, .goto 4, 3)) rfl
theorem d_law_1161 : decode code 1161 = .ok (.iconst 0, 1) := lw_dk lw_okI_11 27 (e := (1161, .iconst 0, 1)) rfl
theorem d_law_1162 : decode code 1162 = .ok (.invokevirtual 165, 3) := lw_dk lw_okI_11 28 (e := (1162, .invokevirtual 165, 3)) rfl
theorem d_law_1165 : decode code 1165 = .ok (.if_icmp .eq 44, 3) := lw_dk lw_okI_11 29 (e := (1165, .if_icmp .eq 44, 3)) rfl
theorem d_law_1168 : decode code 1168 = .ok (.iconst 0, 1) := lw_dk lw_okI_11 30 (e := (1168, .iconst 0, 1)) rfl
theorem d_law_1169 : decode code 1169 = .ok (.ireturn, 1) := lw_dk lw_okI_11 31 (e := (1169, .ireturn, 1)) rfl
theorem d_law_1170 : decode code 1170 = .ok (.aload_n 1, 1) := lw_dk lw_okI_11 32 (e := (1170, .aload_n 1, 1)) rfl
theorem d_law_1171 : decode code 1171 = .ok (.invokevirtual 166, 3) := lw_dk lw_okI_11 33 (e := (1171, .invokevirtual 166, 3)) rfl
theorem d_law_1174 : decode code 1174 = .ok (.aload_n 2, 1) := lw_dk lw_okI_11 34 (e := (1174, .aload_n 2, 1)) rfl
theorem d_law_1175 : decode code 1175 = .ok (.invokevirtual 169, 3) := lw_dk lw_okI_11 35 (e := (1175, .invokevirtual 169, 3)) rfl
theorem d_law_1178 : decode code 1178 = .ok (.if_icmp .eq 31, 3) := lw_dk lw_okI_11 36 (e := (1178, .if_icmp .eq 31, 3)) rfl
theorem d_law_1181 : decode code 1181 = .ok (.iconst 0, 1) := lw_dk lw_okI_11 37 (e := (1181, .iconst 0, 1)) rfl
theorem d_law_1182 : decode code 1182 = .ok (.ireturn, 1) := lw_dk lw_okI_11 38 (e := (1182, .ireturn, 1)) rfl
theorem d_law_1183 : decode code 1183 = .ok (.aload_n 1, 1) := lw_dk lw_okI_11 39 (e := (1183, .aload_n 1, 1)) rfl
theorem d_law_1184 : decode code 1184 = .ok (.invokevirtual 170, 3) := lw_dk lw_okI_11 40 (e := (1184, .invokevirtual 170, 3)) rfl
theorem d_law_1187 : decode code 1187 = .ok (.aload_n 2, 1) := lw_dk lw_okI_11 41 (e := (1187, .aload_n 2, 1)) rfl
theorem d_law_1188 : decode code 1188 = .ok (.invokevirtual 173, 3) := lw_dk lw_okI_11 42 (e := (1188, .invokevirtual 173, 3)) rfl
theorem d_law_1191 : decode code 1191 = .ok (.if_icmp .eq 18, 3) := lw_dk lw_okI_11 43 (e := (1191, .if_icmp .eq 18, 3)) rfl
theorem d_law_1194 : decode code 1194 = .ok (.iconst 0, 1) := lw_dk lw_okI_11 44 (e := (1194, .iconst 0, 1)) rfl
theorem d_law_1195 : decode code 1195 = .ok (.ireturn, 1) := lw_dk lw_okI_11 45 (e := (1195, .ireturn, 1)) rfl
theorem d_law_1196 : decode code 1196 = .ok (.aload_n 1, 1) := lw_dk lw_okI_11 46 (e := (1196, .aload_n 1, 1)) rfl
theorem d_law_1197 : decode code 1197 = .ok (.invokevirtual 174, 3) := lw_dk lw_okI_11 47 (e := (1197, .invokevirtual 174, 3)) rfl
theorem d_law_1200 : decode code 1200 = .ok (.aload_n 2, 1) := lw_dk lw_okI_11 48 (e := (1200, .aload_n 2, 1)) rfl
theorem d_law_1201 : decode code 1201 = .ok (.invokevirtual 177, 3) := lw_dk lw_okI_11 49 (e := (1201, .invokevirtual 177, 3)) rfl
theorem d_law_1204 : decode code 1204 = .ok (.if_icmp .eq 5, 3) := lw_dk lw_okI_11 50 (e := (1204, .if_icmp .eq 5, 3)) rfl
theorem d_law_1207 : decode code 1207 = .ok (.iconst 0, 1) := lw_dk lw_okI_11 51 (e := (1207, .iconst 0, 1)) rfl
theorem d_law_1208 : decode code 1208 = .ok (.ireturn, 1) := lw_dk lw_okI_11 52 (e := (1208, .ireturn, 1)) rfl
theorem d_law_1209 : decode code 1209 = .ok (.iinc 3 4, 3) := lw_dk lw_okI_11 53 (e := (1209, .iinc 3 4, 3)) rfl
theorem d_law_1212 : decode code 1212 = .ok (.goto (-1194), 3) := lw_dk lw_okI_11 54 (e := (1212, .goto (-1194), 3)) rfl
theorem d_law_1215 : decode code 1215 = .ok (.iconst 1, 1) := lw_dk lw_okI_11 55 (e := (1215, .iconst 1, 1)) rfl
theorem d_law_1216 : decode code 1216 = .ok (.ireturn, 1) := lw_dk lw_okI_11 56 (e := (1216, .ireturn, 1)) rfl
