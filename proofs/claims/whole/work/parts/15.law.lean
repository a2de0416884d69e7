/-! the law: its walk -/
set_option maxRecDepth 100000 in
theorem eL_law : ∀ q ∈ ([(0, .new 7, 3), (3, .dup, 1), (4, .invokespecial 9, 3), (7, .astore_n 1, 1), (8, .new 10, 3), (11, .dup, 1), (12, .invokespecial 12, 3), (15, .astore_n 2, 1), (16, .iconst 0, 1), (17, .istore_n 3, 1), (18, .iload_n 3, 1), (19, .aload_n 0, 1), (20, .arraylength, 1), (21, .bipush 6, 2), (23, .isub, 1), (24, .if_icmp .gt 1494, 3), (27, .aload_n 0, 1), (28, .iload_n 3, 1), (29, .iaload, 1), (30, .bipush 63, 2), (32, .iand, 1), (33, .tableswitch 1479 0 41 #[183, 246, 259, 282, 305, 338, 361, 384, 407, 450, 493, 526, 579, 602, 635, 658, 691, 724, 747, 780, 813, 876, 899, 912, 925, 958, 991, 1014, 1047, 1090, 1113, 1136, 1159, 1192, 1215, 1238, 1251, 1304, 1347, 1380, 1423, 1456], 183), (216, .aload_n 1, 1), (217, .aload_n 0, 1), (218, .iload_n 3, 1), (219, .iconst 1, 1), (220, .iadd, 1), (221, .iaload, 1), (222, .aload_n 0, 1), (223, .iload_n 3, 1), (224, .iconst 2, 1), (225, .iadd, 1), (226, .iaload, 1), (227, .aload_n 0, 1), (228, .iload_n 3, 1), (229, .iconst 3, 1), (230, .iadd, 1), (231, .iaload, 1), (232, .aload_n 0, 1), (233, .iload_n 3, 1), (234, .iconst 4, 1), (235, .iadd, 1), (236, .iaload, 1), (237, .aload_n 0, 1), (238, .iload_n 3, 1), (239, .iconst 5, 1), (240, .iadd, 1), (241, .iaload, 1), (242, .invokevirtual 13, 3), (245, .aload_n 2, 1), (246, .aload_n 0, 1), (247, .iload_n 3, 1), (248, .iconst 1, 1), (249, .iadd, 1), (250, .iaload, 1), (251, .aload_n 0, 1), (252, .iload_n 3, 1), (253, .iconst 2, 1), (254, .iadd, 1), (255, .iaload, 1), (256, .aload_n 0, 1), (257, .iload_n 3, 1), (258, .iconst 3, 1), (259, .iadd, 1), (260, .iaload, 1), (261, .aload_n 0, 1), (262, .iload_n 3, 1), (263, .iconst 4, 1), (264, .iadd, 1), (265, .iaload, 1), (266, .aload_n 0, 1), (267, .iload_n 3, 1), (268, .iconst 5, 1), (269, .iadd, 1), (270, .iaload, 1), (271, .invokevirtual 17, 3), (274, .if_icmp .eq 1238, 3), (277, .iconst 0, 1), (278, .ireturn, 1), (279, .aload_n 1, 1), (280, .invokevirtual 18, 3), (283, .aload_n 2, 1), (284, .invokevirtual 22, 3), (287, .if_icmp .eq 1225, 3), (290, .iconst 0, 1), (291, .ireturn, 1), (292, .aload_n 1, 1), (293, .aload_n 0, 1), (294, .iload_n 3, 1), (295, .iconst 1, 1), (296, .iadd, 1), (297, .iaload, 1), (298, .invokevirtual 23, 3), (301, .aload_n 2, 1), (302, .aload_n 0, 1), (303, .iload_n 3, 1), (304, .iconst 1, 1), (305, .iadd, 1), (306, .iaload, 1), (307, .invokevirtual 27, 3), (310, .if_icmp .eq 1202, 3), (313, .iconst 0, 1), (314, .ireturn, 1), (315, .aload_n 1, 1), (316, .aload_n 0, 1), (317, .iload_n 3, 1), (318, .iconst 1, 1), (319, .iadd, 1), (320, .iaload, 1), (321, .invokevirtual 28, 3), (324, .aload_n 2, 1), (325, .aload_n 0, 1), (326, .iload_n 3, 1), (327, .iconst 1, 1), (328, .iadd, 1), (329, .iaload, 1), (330, .invokevirtual 32, 3), (333, .if_icmp .eq 1179, 3), (336, .iconst 0, 1), (337, .ireturn, 1), (338, .aload_n 1, 1), (339, .aload_n 0, 1), (340, .iload_n 3, 1), (341, .iconst 1, 1), (342, .iadd, 1), (343, .iaload, 1), (344, .aload_n 0, 1), (345, .iload_n 3, 1), (346, .iconst 2, 1), (347, .iadd, 1), (348, .iaload, 1), (349, .invokevirtual 33, 3), (352, .aload_n 2, 1), (353, .aload_n 0, 1), (354, .iload_n 3, 1), (355, .iconst 1, 1), (356, .iadd, 1), (357, .iaload, 1), (358, .aload_n 0, 1), (359, .iload_n 3, 1), (360, .iconst 2, 1), (361, .iadd, 1), (362, .iaload, 1), (363, .invokevirtual 37, 3), (366, .if_icmp .eq 1146, 3), (369, .iconst 0, 1), (370, .ireturn, 1), (371, .aload_n 1, 1), (372, .aload_n 0, 1), (373, .iload_n 3, 1), (374, .iconst 1, 1), (375, .iadd, 1), (376, .iaload, 1), (377, .invokevirtual 38, 3), (380, .aload_n 2, 1), (381, .aload_n 0, 1), (382, .iload_n 3, 1), (383, .iconst 1, 1), (384, .iadd, 1), (385, .iaload, 1), (386, .invokevirtual 41, 3), (389, .if_icmp .eq 1123, 3), (392, .iconst 0, 1), (393, .ireturn, 1), (394, .aload_n 1, 1), (395, .aload_n 0, 1), (396, .iload_n 3, 1), (397, .iconst 1, 1), (398, .iadd, 1), (399, .iaload, 1), (400, .invokevirtual 42, 3), (403, .aload_n 2, 1), (404, .aload_n 0, 1), (405, .iload_n 3, 1), (406, .iconst 1, 1), (407, .iadd, 1), (408, .iaload, 1), (409, .invokevirtual 45, 3), (412, .if_icmp .eq 1100, 3), (415, .iconst 0, 1), (416, .ireturn, 1), (417, .aload_n 1, 1), (418, .aload_n 0, 1), (419, .iload_n 3, 1), (420, .iconst 1, 1), (421, .iadd, 1), (422, .iaload, 1), (423, .invokevirtual 46, 3), (426, .aload_n 2, 1), (427, .aload_n 0, 1), (428, .iload_n 3, 1), (429, .iconst 1, 1), (430, .iadd, 1), (431, .iaload, 1), (432, .invokevirtual 49, 3), (435, .if_icmp .eq 1077, 3), (438, .iconst 0, 1), (439, .ireturn, 1), (440, .aload_n 1, 1), (441, .aload_n 0, 1), (442, .iload_n 3, 1), (443, .iconst 1, 1), (444, .iadd, 1), (445, .iaload, 1), (446, .aload_n 0, 1), (447, .iload_n 3, 1), (448, .iconst 2, 1), (449, .iadd, 1), (450, .iaload, 1), (451, .aload_n 0, 1), (452, .iload_n 3, 1), (453, .iconst 3, 1), (454, .iadd, 1), (455, .iaload, 1), (456, .invokevirtual 50, 3), (459, .aload_n 2, 1), (460, .aload_n 0, 1), (461, .iload_n 3, 1), (462, .iconst 1, 1), (463, .iadd, 1), (464, .iaload, 1), (465, .aload_n 0, 1), (466, .iload_n 3, 1), (467, .iconst 2, 1), (468, .iadd, 1), (469, .iaload, 1), (470, .aload_n 0, 1), (471, .iload_n 3, 1), (472, .iconst 3, 1), (473, .iadd, 1), (474, .iaload, 1), (475, .invokevirtual 54, 3), (478, .if_icmp .eq 1034, 3), (481, .iconst 0, 1), (482, .ireturn, 1), (483, .aload_n 1, 1), (484, .aload_n 0, 1), (485, .iload_n 3, 1), (486, .iconst 1, 1), (487, .iadd, 1), (488, .iaload, 1), (489, .aload_n 0, 1), (490, .iload_n 3, 1), (491, .iconst 2, 1), (492, .iadd, 1), (493, .iaload, 1), (494, .aload_n 0, 1), (495, .iload_n 3, 1), (496, .iconst 3, 1), (497, .iadd, 1), (498, .iaload, 1), (499, .invokevirtual 55, 3), (502, .aload_n 2, 1), (503, .aload_n 0, 1), (504, .iload_n 3, 1), (505, .iconst 1, 1), (506, .iadd, 1), (507, .iaload, 1), (508, .aload_n 0, 1), (509, .iload_n 3, 1), (510, .iconst 2, 1), (511, .iadd, 1), (512, .iaload, 1), (513, .aload_n 0, 1), (514, .iload_n 3, 1), (515, .iconst 3, 1), (516, .iadd, 1), (517, .iaload, 1), (518, .invokevirtual 58, 3), (521, .if_icmp .eq 991, 3), (524, .iconst 0, 1), (525, .ireturn, 1), (526, .aload_n 1, 1), (527, .aload_n 0, 1), (528, .iload_n 3, 1), (529, .iconst 1, 1), (530, .iadd, 1), (531, .iaload, 1), (532, .aload_n 0, 1), (533, .iload_n 3, 1), (534, .iconst 2, 1), (535, .iadd, 1), (536, .iaload, 1), (537, .invokevirtual 59, 3), (540, .aload_n 2, 1), (541, .aload_n 0, 1), (542, .iload_n 3, 1), (543, .iconst 1, 1), (544, .iadd, 1), (545, .iaload, 1), (546, .aload_n 0, 1), (547, .iload_n 3, 1), (548, .iconst 2, 1), (549, .iadd, 1), (550, .iaload, 1), (551, .invokevirtual 62, 3), (554, .if_icmp .eq 958, 3), (557, .iconst 0, 1), (558, .ireturn, 1), (559, .aload_n 1, 1), (560, .aload_n 0, 1), (561, .iload_n 3, 1), (562, .iconst 1, 1), (563, .iadd, 1), (564, .iaload, 1), (565, .aload_n 0, 1), (566, .iload_n 3, 1), (567, .iconst 2, 1), (568, .iadd, 1), (569, .iaload, 1), (570, .aload_n 0, 1), (571, .iload_n 3, 1), (572, .iconst 3, 1), (573, .iadd, 1), (574, .iaload, 1), (575, .aload_n 0, 1), (576, .iload_n 3, 1), (577, .iconst 4, 1), (578, .iadd, 1), (579, .iaload, 1), (580, .invokevirtual 63, 3), (583, .aload_n 2, 1), (584, .aload_n 0, 1), (585, .iload_n 3, 1), (586, .iconst 1, 1), (587, .iadd, 1), (588, .iaload, 1), (589, .aload_n 0, 1), (590, .iload_n 3, 1), (591, .iconst 2, 1), (592, .iadd, 1), (593, .iaload, 1), (594, .aload_n 0, 1), (595, .iload_n 3, 1), (596, .iconst 3, 1), (597, .iadd, 1), (598, .iaload, 1), (599, .aload_n 0, 1), (600, .iload_n 3, 1), (601, .iconst 4, 1), (602, .iadd, 1), (603, .iaload, 1), (604, .invokevirtual 67, 3), (607, .if_icmp .eq 905, 3), (610, .iconst 0, 1), (611, .ireturn, 1), (612, .aload_n 1, 1), (613, .aload_n 0, 1), (614, .iload_n 3, 1), (615, .iconst 1, 1), (616, .iadd, 1), (617, .iaload, 1), (618, .invokevirtual 68, 3), (621, .aload_n 2, 1), (622, .aload_n 0, 1), (623, .iload_n 3, 1), (624, .iconst 1, 1), (625, .iadd, 1), (626, .iaload, 1), (627, .invokevirtual 71, 3), (630, .if_icmp .eq 882, 3), (633, .iconst 0, 1), (634, .ireturn, 1), (635, .aload_n 1, 1), (636, .aload_n 0, 1), (637, .iload_n 3, 1), (638, .iconst 1, 1), (639, .iadd, 1), (640, .iaload, 1), (641, .aload_n 0, 1), (642, .iload_n 3, 1), (643, .iconst 2, 1), (644, .iadd, 1), (645, .iaload, 1), (646, .invokevirtual 72, 3), (649, .aload_n 2, 1), (650, .aload_n 0, 1), (651, .iload_n 3, 1), (652, .iconst 1, 1), (653, .iadd, 1), (654, .iaload, 1), (655, .aload_n 0, 1), (656, .iload_n 3, 1), (657, .iconst 2, 1), (658, .iadd, 1), (659, .iaload, 1), (660, .invokevirtual 76, 3), (663, .if_icmp .eq 849, 3), (666, .iconst 0, 1), (667, .ireturn, 1), (668, .aload_n 1, 1), (669, .aload_n 0, 1), (670, .iload_n 3, 1), (671, .iconst 1, 1), (672, .iadd, 1), (673, .iaload, 1), (674, .invokevirtual 77, 3), (677, .aload_n 2, 1), (678, .aload_n 0, 1), (679, .iload_n 3, 1), (680, .iconst 1, 1), (681, .iadd, 1), (682, .iaload, 1), (683, .invokevirtual 80, 3), (686, .if_icmp .eq 826, 3), (689, .iconst 0, 1), (690, .ireturn, 1), (691, .aload_n 1, 1), (692, .aload_n 0, 1), (693, .iload_n 3, 1), (694, .iconst 1, 1), (695, .iadd, 1), (696, .iaload, 1), (697, .aload_n 0, 1), (698, .iload_n 3, 1), (699, .iconst 2, 1), (700, .iadd, 1), (701, .iaload, 1), (702, .invokevirtual 81, 3), (705, .aload_n 2, 1), (706, .aload_n 0, 1), (707, .iload_n 3, 1), (708, .iconst 1, 1), (709, .iadd, 1), (710, .iaload, 1), (711, .aload_n 0, 1), (712, .iload_n 3, 1), (713, .iconst 2, 1), (714, .iadd, 1), (715, .iaload, 1), (716, .invokevirtual 84, 3), (719, .if_icmp .eq 793, 3), (722, .iconst 0, 1), (723, .ireturn, 1), (724, .aload_n 1, 1), (725, .aload_n 0, 1), (726, .iload_n 3, 1), (727, .iconst 1, 1), (728, .iadd, 1), (729, .iaload, 1), (730, .aload_n 0, 1), (731, .iload_n 3, 1), (732, .iconst 2, 1), (733, .iadd, 1), (734, .iaload, 1), (735, .invokevirtual 85, 3), (738, .aload_n 2, 1), (739, .aload_n 0, 1), (740, .iload_n 3, 1), (741, .iconst 1, 1), (742, .iadd, 1), (743, .iaload, 1), (744, .aload_n 0, 1), (745, .iload_n 3, 1), (746, .iconst 2, 1), (747, .iadd, 1), (748, .iaload, 1), (749, .invokevirtual 88, 3), (752, .if_icmp .eq 760, 3), (755, .iconst 0, 1), (756, .ireturn, 1), (757, .aload_n 1, 1), (758, .aload_n 0, 1), (759, .iload_n 3, 1), (760, .iconst 1, 1), (761, .iadd, 1), (762, .iaload, 1), (763, .invokevirtual 89, 3), (766, .aload_n 2, 1), (767, .aload_n 0, 1), (768, .iload_n 3, 1), (769, .iconst 1, 1), (770, .iadd, 1), (771, .iaload, 1), (772, .invokevirtual 92, 3), (775, .if_icmp .eq 737, 3), (778, .iconst 0, 1), (779, .ireturn, 1), (780, .aload_n 1, 1), (781, .aload_n 0, 1), (782, .iload_n 3, 1), (783, .iconst 1, 1), (784, .iadd, 1), (785, .iaload, 1), (786, .aload_n 0, 1), (787, .iload_n 3, 1), (788, .iconst 2, 1), (789, .iadd, 1), (790, .iaload, 1), (791, .invokevirtual 93, 3), (794, .aload_n 2, 1), (795, .aload_n 0, 1), (796, .iload_n 3, 1), (797, .iconst 1, 1), (798, .iadd, 1), (799, .iaload, 1), (800, .aload_n 0, 1), (801, .iload_n 3, 1), (802, .iconst 2, 1), (803, .iadd, 1), (804, .iaload, 1), (805, .invokevirtual 96, 3), (808, .if_icmp .eq 704, 3), (811, .iconst 0, 1), (812, .ireturn, 1), (813, .aload_n 1, 1), (814, .aload_n 0, 1), (815, .iload_n 3, 1), (816, .iconst 1, 1), (817, .iadd, 1), (818, .iaload, 1), (819, .aload_n 0, 1), (820, .iload_n 3, 1), (821, .iconst 2, 1), (822, .iadd, 1), (823, .iaload, 1), (824, .invokevirtual 97, 3), (827, .aload_n 2, 1), (828, .aload_n 0, 1), (829, .iload_n 3, 1), (830, .iconst 1, 1), (831, .iadd, 1), (832, .iaload, 1), (833, .aload_n 0, 1), (834, .iload_n 3, 1), (835, .iconst 2, 1), (836, .iadd, 1), (837, .iaload, 1), (838, .invokevirtual 100, 3), (841, .if_icmp .eq 671, 3), (844, .iconst 0, 1), (845, .ireturn, 1), (846, .aload_n 1, 1), (847, .aload_n 0, 1), (848, .iload_n 3, 1), (849, .iconst 1, 1), (850, .iadd, 1), (851, .iaload, 1), (852, .aload_n 0, 1), (853, .iload_n 3, 1), (854, .iconst 2, 1), (855, .iadd, 1), (856, .iaload, 1), (857, .aload_n 0, 1), (858, .iload_n 3, 1), (859, .iconst 3, 1), (860, .iadd, 1), (861, .iaload, 1), (862, .aload_n 0, 1), (863, .iload_n 3, 1), (864, .iconst 4, 1), (865, .iadd, 1), (866, .iaload, 1), (867, .aload_n 0, 1), (868, .iload_n 3, 1), (869, .iconst 5, 1), (870, .iadd, 1), (871, .iaload, 1), (872, .invokevirtual 101, 3), (875, .aload_n 2, 1), (876, .aload_n 0, 1), (877, .iload_n 3, 1), (878, .iconst 1, 1), (879, .iadd, 1), (880, .iaload, 1), (881, .aload_n 0, 1), (882, .iload_n 3, 1), (883, .iconst 2, 1), (884, .iadd, 1), (885, .iaload, 1), (886, .aload_n 0, 1), (887, .iload_n 3, 1), (888, .iconst 3, 1), (889, .iadd, 1), (890, .iaload, 1), (891, .aload_n 0, 1), (892, .iload_n 3, 1), (893, .iconst 4, 1), (894, .iadd, 1), (895, .iaload, 1), (896, .aload_n 0, 1), (897, .iload_n 3, 1), (898, .iconst 5, 1), (899, .iadd, 1), (900, .iaload, 1), (901, .invokevirtual 104, 3), (904, .if_icmp .eq 608, 3), (907, .iconst 0, 1), (908, .ireturn, 1), (909, .aload_n 1, 1), (910, .aload_n 0, 1), (911, .iload_n 3, 1), (912, .iconst 1, 1), (913, .iadd, 1), (914, .iaload, 1), (915, .invokevirtual 105, 3), (918, .aload_n 2, 1), (919, .aload_n 0, 1), (920, .iload_n 3, 1), (921, .iconst 1, 1), (922, .iadd, 1), (923, .iaload, 1), (924, .invokevirtual 108, 3), (927, .if_icmp .eq 585, 3), (930, .iconst 0, 1), (931, .ireturn, 1), (932, .aload_n 1, 1), (933, .invokevirtual 109, 3), (936, .aload_n 2, 1), (937, .invokevirtual 112, 3), (940, .if_icmp .eq 572, 3), (943, .iconst 0, 1), (944, .ireturn, 1), (945, .aload_n 1, 1), (946, .invokevirtual 113, 3), (949, .aload_n 2, 1), (950, .invokevirtual 116, 3), (953, .if_icmp .eq 559, 3), (956, .iconst 0, 1), (957, .ireturn, 1), (958, .aload_n 1, 1), (959, .aload_n 0, 1), (960, .iload_n 3, 1), (961, .iconst 1, 1), (962, .iadd, 1), (963, .iaload, 1), (964, .aload_n 0, 1), (965, .iload_n 3, 1), (966, .iconst 2, 1), (967, .iadd, 1), (968, .iaload, 1), (969, .invokevirtual 117, 3), (972, .aload_n 2, 1), (973, .aload_n 0, 1), (974, .iload_n 3, 1), (975, .iconst 1, 1), (976, .iadd, 1), (977, .iaload, 1), (978, .aload_n 0, 1), (979, .iload_n 3, 1), (980, .iconst 2, 1), (981, .iadd, 1), (982, .iaload, 1), (983, .invokevirtual 120, 3), (986, .if_icmp .eq 526, 3), (989, .iconst 0, 1), (990, .ireturn, 1), (991, .aload_n 1, 1), (992, .aload_n 0, 1), (993, .iload_n 3, 1), (994, .iconst 1, 1), (995, .iadd, 1), (996, .iaload, 1), (997, .aload_n 0, 1), (998, .iload_n 3, 1), (999, .iconst 2, 1), (1000, .iadd, 1), (1001, .iaload, 1), (1002, .invokevirtual 121, 3), (1005, .aload_n 2, 1), (1006, .aload_n 0, 1), (1007, .iload_n 3, 1), (1008, .iconst 1, 1), (1009, .iadd, 1), (1010, .iaload, 1), (1011, .aload_n 0, 1), (1012, .iload_n 3, 1), (1013, .iconst 2, 1), (1014, .iadd, 1), (1015, .iaload, 1), (1016, .invokevirtual 124, 3), (1019, .if_icmp .eq 493, 3), (1022, .iconst 0, 1), (1023, .ireturn, 1), (1024, .aload_n 1, 1), (1025, .aload_n 0, 1), (1026, .iload_n 3, 1), (1027, .iconst 1, 1), (1028, .iadd, 1), (1029, .iaload, 1), (1030, .invokevirtual 125, 3), (1033, .aload_n 2, 1), (1034, .aload_n 0, 1), (1035, .iload_n 3, 1), (1036, .iconst 1, 1), (1037, .iadd, 1), (1038, .iaload, 1), (1039, .invokevirtual 128, 3), (1042, .if_icmp .eq 470, 3), (1045, .iconst 0, 1), (1046, .ireturn, 1), (1047, .aload_n 1, 1), (1048, .aload_n 0, 1), (1049, .iload_n 3, 1), (1050, .iconst 1, 1), (1051, .iadd, 1), (1052, .iaload, 1), (1053, .aload_n 0, 1), (1054, .iload_n 3, 1), (1055, .iconst 2, 1), (1056, .iadd, 1), (1057, .iaload, 1), (1058, .invokevirtual 129, 3), (1061, .aload_n 2, 1), (1062, .aload_n 0, 1), (1063, .iload_n 3, 1), (1064, .iconst 1, 1), (1065, .iadd, 1), (1066, .iaload, 1), (1067, .aload_n 0, 1), (1068, .iload_n 3, 1), (1069, .iconst 2, 1), (1070, .iadd, 1), (1071, .iaload, 1), (1072, .invokevirtual 132, 3), (1075, .if_icmp .eq 437, 3), (1078, .iconst 0, 1), (1079, .ireturn, 1), (1080, .aload_n 1, 1), (1081, .aload_n 0, 1), (1082, .iload_n 3, 1), (1083, .iconst 1, 1), (1084, .iadd, 1), (1085, .iaload, 1), (1086, .aload_n 0, 1), (1087, .iload_n 3, 1), (1088, .iconst 2, 1), (1089, .iadd, 1), (1090, .iaload, 1), (1091, .aload_n 0, 1), (1092, .iload_n 3, 1), (1093, .iconst 3, 1), (1094, .iadd, 1), (1095, .iaload, 1), (1096, .invokevirtual 133, 3), (1099, .aload_n 2, 1), (1100, .aload_n 0, 1), (1101, .iload_n 3, 1), (1102, .iconst 1, 1), (1103, .iadd, 1), (1104, .iaload, 1), (1105, .aload_n 0, 1), (1106, .iload_n 3, 1), (1107, .iconst 2, 1), (1108, .iadd, 1), (1109, .iaload, 1), (1110, .aload_n 0, 1), (1111, .iload_n 3, 1), (1112, .iconst 3, 1), (1113, .iadd, 1), (1114, .iaload, 1), (1115, .invokevirtual 136, 3), (1118, .if_icmp .eq 394, 3), (1121, .iconst 0, 1), (1122, .ireturn, 1), (1123, .aload_n 1, 1), (1124, .aload_n 0, 1), (1125, .iload_n 3, 1), (1126, .iconst 1, 1), (1127, .iadd, 1), (1128, .iaload, 1), (1129, .invokevirtual 137, 3), (1132, .aload_n 2, 1), (1133, .aload_n 0, 1), (1134, .iload_n 3, 1), (1135, .iconst 1, 1), (1136, .iadd, 1), (1137, .iaload, 1), (1138, .invokevirtual 140, 3), (1141, .if_icmp .eq 371, 3), (1144, .iconst 0, 1), (1145, .ireturn, 1), (1146, .aload_n 1, 1), (1147, .aload_n 0, 1), (1148, .iload_n 3, 1), (1149, .iconst 1, 1), (1150, .iadd, 1), (1151, .iaload, 1), (1152, .invokevirtual 141, 3), (1155, .aload_n 2, 1), (1156, .aload_n 0, 1), (1157, .iload_n 3, 1), (1158, .iconst 1, 1), (1159, .iadd, 1), (1160, .iaload, 1), (1161, .invokevirtual 144, 3), (1164, .if_icmp .eq 348, 3), (1167, .iconst 0, 1), (1168, .ireturn, 1), (1169, .aload_n 1, 1), (1170, .aload_n 0, 1), (1171, .iload_n 3, 1), (1172, .iconst 1, 1), (1173, .iadd, 1), (1174, .iaload, 1), (1175, .invokevirtual 145, 3), (1178, .aload_n 2, 1), (1179, .aload_n 0, 1), (1180, .iload_n 3, 1), (1181, .iconst 1, 1), (1182, .iadd, 1), (1183, .iaload, 1), (1184, .invokevirtual 148, 3), (1187, .if_icmp .eq 325, 3), (1190, .iconst 0, 1), (1191, .ireturn, 1), (1192, .aload_n 1, 1), (1193, .aload_n 0, 1), (1194, .iload_n 3, 1), (1195, .iconst 1, 1), (1196, .iadd, 1), (1197, .iaload, 1), (1198, .aload_n 0, 1), (1199, .iload_n 3, 1), (1200, .iconst 2, 1), (1201, .iadd, 1), (1202, .iaload, 1), (1203, .invokevirtual 149, 3), (1206, .aload_n 2, 1), (1207, .aload_n 0, 1), (1208, .iload_n 3, 1), (1209, .iconst 1, 1), (1210, .iadd, 1), (1211, .iaload, 1), (1212, .aload_n 0, 1), (1213, .iload_n 3, 1), (1214, .iconst 2, 1), (1215, .iadd, 1), (1216, .iaload, 1), (1217, .invokevirtual 152, 3), (1220, .if_icmp .eq 292, 3), (1223, .iconst 0, 1), (1224, .ireturn, 1), (1225, .aload_n 1, 1), (1226, .aload_n 0, 1), (1227, .iload_n 3, 1), (1228, .iconst 1, 1), (1229, .iadd, 1), (1230, .iaload, 1), (1231, .invokevirtual 153, 3), (1234, .aload_n 2, 1), (1235, .aload_n 0, 1), (1236, .iload_n 3, 1), (1237, .iconst 1, 1), (1238, .iadd, 1), (1239, .iaload, 1), (1240, .invokevirtual 156, 3), (1243, .if_icmp .eq 269, 3), (1246, .iconst 0, 1), (1247, .ireturn, 1), (1248, .aload_n 1, 1), (1249, .aload_n 0, 1), (1250, .iload_n 3, 1), (1251, .iconst 1, 1), (1252, .iadd, 1), (1253, .iaload, 1), (1254, .invokevirtual 157, 3), (1257, .aload_n 2, 1), (1258, .aload_n 0, 1), (1259, .iload_n 3, 1), (1260, .iconst 1, 1), (1261, .iadd, 1), (1262, .iaload, 1), (1263, .invokevirtual 160, 3), (1266, .if_icmp .eq 246, 3), (1269, .iconst 0, 1), (1270, .ireturn, 1), (1271, .aload_n 1, 1), (1272, .invokevirtual 161, 3), (1275, .aload_n 2, 1), (1276, .invokevirtual 164, 3), (1279, .if_icmp .eq 233, 3), (1282, .iconst 0, 1), (1283, .ireturn, 1), (1284, .aload_n 1, 1), (1285, .aload_n 0, 1), (1286, .iload_n 3, 1), (1287, .iconst 1, 1), (1288, .iadd, 1), (1289, .iaload, 1), (1290, .aload_n 0, 1), (1291, .iload_n 3, 1), (1292, .iconst 2, 1), (1293, .iadd, 1), (1294, .iaload, 1), (1295, .aload_n 0, 1), (1296, .iload_n 3, 1), (1297, .iconst 3, 1), (1298, .iadd, 1), (1299, .iaload, 1), (1300, .aload_n 0, 1), (1301, .iload_n 3, 1), (1302, .iconst 4, 1), (1303, .iadd, 1), (1304, .iaload, 1), (1305, .invokevirtual 165, 3), (1308, .aload_n 2, 1), (1309, .aload_n 0, 1), (1310, .iload_n 3, 1), (1311, .iconst 1, 1), (1312, .iadd, 1), (1313, .iaload, 1), (1314, .aload_n 0, 1), (1315, .iload_n 3, 1), (1316, .iconst 2, 1), (1317, .iadd, 1), (1318, .iaload, 1), (1319, .aload_n 0, 1), (1320, .iload_n 3, 1), (1321, .iconst 3, 1), (1322, .iadd, 1), (1323, .iaload, 1), (1324, .aload_n 0, 1), (1325, .iload_n 3, 1), (1326, .iconst 4, 1), (1327, .iadd, 1), (1328, .iaload, 1), (1329, .invokevirtual 168, 3), (1332, .if_icmp .eq 180, 3), (1335, .iconst 0, 1), (1336, .ireturn, 1), (1337, .aload_n 1, 1), (1338, .aload_n 0, 1), (1339, .iload_n 3, 1), (1340, .iconst 1, 1), (1341, .iadd, 1), (1342, .iaload, 1), (1343, .aload_n 0, 1), (1344, .iload_n 3, 1), (1345, .iconst 2, 1), (1346, .iadd, 1), (1347, .iaload, 1), (1348, .aload_n 0, 1), (1349, .iload_n 3, 1), (1350, .iconst 3, 1), (1351, .iadd, 1), (1352, .iaload, 1), (1353, .invokevirtual 169, 3), (1356, .aload_n 2, 1), (1357, .aload_n 0, 1), (1358, .iload_n 3, 1), (1359, .iconst 1, 1), (1360, .iadd, 1), (1361, .iaload, 1), (1362, .aload_n 0, 1), (1363, .iload_n 3, 1), (1364, .iconst 2, 1), (1365, .iadd, 1), (1366, .iaload, 1), (1367, .aload_n 0, 1), (1368, .iload_n 3, 1), (1369, .iconst 3, 1), (1370, .iadd, 1), (1371, .iaload, 1), (1372, .invokevirtual 172, 3), (1375, .if_icmp .eq 137, 3), (1378, .iconst 0, 1), (1379, .ireturn, 1), (1380, .aload_n 1, 1), (1381, .aload_n 0, 1), (1382, .iload_n 3, 1), (1383, .iconst 1, 1), (1384, .iadd, 1), (1385, .iaload, 1), (1386, .aload_n 0, 1), (1387, .iload_n 3, 1), (1388, .iconst 2, 1), (1389, .iadd, 1), (1390, .iaload, 1), (1391, .invokevirtual 173, 3), (1394, .aload_n 2, 1), (1395, .aload_n 0, 1), (1396, .iload_n 3, 1), (1397, .iconst 1, 1), (1398, .iadd, 1), (1399, .iaload, 1), (1400, .aload_n 0, 1), (1401, .iload_n 3, 1), (1402, .iconst 2, 1), (1403, .iadd, 1), (1404, .iaload, 1), (1405, .invokevirtual 176, 3), (1408, .if_icmp .eq 104, 3), (1411, .iconst 0, 1), (1412, .ireturn, 1), (1413, .aload_n 1, 1), (1414, .aload_n 0, 1), (1415, .iload_n 3, 1), (1416, .iconst 1, 1), (1417, .iadd, 1), (1418, .iaload, 1), (1419, .aload_n 0, 1), (1420, .iload_n 3, 1), (1421, .iconst 2, 1), (1422, .iadd, 1), (1423, .iaload, 1), (1424, .aload_n 0, 1), (1425, .iload_n 3, 1), (1426, .iconst 3, 1), (1427, .iadd, 1), (1428, .iaload, 1), (1429, .invokevirtual 177, 3), (1432, .aload_n 2, 1), (1433, .aload_n 0, 1), (1434, .iload_n 3, 1), (1435, .iconst 1, 1), (1436, .iadd, 1), (1437, .iaload, 1), (1438, .aload_n 0, 1), (1439, .iload_n 3, 1), (1440, .iconst 2, 1), (1441, .iadd, 1), (1442, .iaload, 1), (1443, .aload_n 0, 1), (1444, .iload_n 3, 1), (1445, .iconst 3, 1), (1446, .iadd, 1), (1447, .iaload, 1), (1448, .invokevirtual 180, 3), (1451, .if_icmp .eq 61, 3), (1454, .iconst 0, 1), (1455, .ireturn, 1), (1456, .aload_n 1, 1), (1457, .aload_n 0, 1), (1458, .iload_n 3, 1), (1459, .iconst 1, 1), (1460, .iadd, 1), (1461, .iaload, 1), (1462, .aload_n 0, 1), (1463, .iload_n 3, 1), (1464, .iconst 2, 1), (1465, .iadd, 1), (1466, .iaload, 1), (1467, .invokevirtual 181, 3), (1470, .aload_n 2, 1), (1471, .aload_n 0, 1), (1472, .iload_n 3, 1), (1473, .iconst 1, 1), (1474, .iadd, 1), (1475, .iaload, 1), (1476, .aload_n 0, 1), (1477, .iload_n 3, 1), (1478, .iconst 2, 1), (1479, .iadd, 1), (1480, .iaload, 1), (1481, .invokevirtual 184, 3), (1484, .if_icmp .eq 28, 3), (1487, .iconst 0, 1), (1488, .ireturn, 1), (1489, .aload_n 1, 1), (1490, .aload_n 0, 1), (1491, .iload_n 3, 1), (1492, .iconst 1, 1), (1493, .iadd, 1), (1494, .iaload, 1), (1495, .invokevirtual 185, 3), (1498, .aload_n 2, 1), (1499, .aload_n 0, 1), (1500, .iload_n 3, 1), (1501, .iconst 1, 1), (1502, .iadd, 1), (1503, .iaload, 1), (1504, .invokevirtual 188, 3), (1507, .if_icmp .eq 5, 3), (1510, .iconst 0, 1), (1511, .ireturn, 1), (1512, .iinc 3 6, 3), (1515, .goto (-1497), 3), (1518, .iconst 1, 1), (1519, .ireturn, 1)] : List (Nat × Instr × Nat)), decode cL_law q.1 = .ok q.2 := by decide +kernel
set_option maxHeartbeats 8000000 in
set_option maxRecDepth 100000 in
theorem sL_law_c18 {Y : m_Y Bool} (S : m_Std Y RL cL_law) (E : m_End Y cL_law .ireturn (fun r => [m_i (m_b2i r)])) {F : Nat} (hF : m_Rm Y F) (hFn : 18 ≤ F) (hN : Y.2.2.2.1 = 4) {xn : Int} {xs : Int → Int} (hX : m_scr Y xn xs) : ∀ (v0 v1 v2 v3 : Int) (h : m_H), m_Sim Y 18 [(0, m_r v0), (1, m_r v1), (2, m_r v2), (3, m_i v3)] [] h (tL_law_c18 xn xs v0 v1 v2 v3 h) := by
  intro v0 v1 v2 v3 h
  refine ms_all fun r e => ?_
  refine tL_law_c18.partial_correctness xn xs v0 v1 v2 (motive := fun v3 h r => m_Sim Y 18 [(0, m_r v0), (1, m_r v1), (2, m_r v2), (3, m_i v3)] [] h (some r)) ?_ v3 h r e
  intro f ih v3 h r e
  have ih : ∀ (v3 : Int) (h : m_H), m_Sim Y 18 [(0, m_r v0), (1, m_r v1), (2, m_r v2), (3, m_i v3)] [] h (f v3 h ) := fun v3 h  => ms_all fun r e => ih v3 h r e
  refine ms_use ?_ e
  clear e r
  refine ms_iload_n (pc := 18) S 3 rfl rfl (m_dec eL_law 10 rfl) ?_
  refine ms_aload_n (pc := 19) S 0 rfl rfl (m_dec eL_law 11 rfl) ?_
  refine ms_grd fun g1 => ?_
  refine ms_slen (pc := 20) S hX g1 (m_dec eL_law 12 rfl) ?_
  refine ms_bipush (pc := 21) S (m_dec eL_law 13 rfl) rfl ?_
  refine ms_isub (pc := 23) S (m_dec eL_law 14 rfl) ?_
  refine ms_icmp_gt (pc := 24) S (m_dec eL_law 15 rfl) rfl (fun q2 => ?_) (fun q2 => ?_)
  · refine ms_iconst (pc := 1518) S (m_dec eL_law 1068 rfl) ?_
    exact ms_ret (pc := 1519) E (m_dec eL_law 1069 rfl) rfl
  · refine ms_aload_n (pc := 27) S 0 rfl rfl (m_dec eL_law 16 rfl) ?_
    refine ms_iload_n (pc := 28) S 3 rfl rfl (m_dec eL_law 17 rfl) ?_
    refine ms_grd fun g3 => ?_
    refine ms_sld (pc := 29) S hX g1 g3 (m_dec eL_law 18 rfl) ?_
    refine ms_bipush (pc := 30) S (m_dec eL_law 19 rfl) rfl ?_
    refine ms_iand (pc := 32) S (m_dec eL_law 20 rfl) ?_
    refine ms_ite (fun q4 => ?_) (fun q4 => ?_)
    · refine ms_swIn (pc := 33) S (m_dec eL_law 21 rfl) 0 q4 (by decide) (by decide) rfl rfl ?_
      refine ms_aload_n (pc := 216) S 1 rfl rfl (m_dec eL_law 22 rfl) ?_
      refine ms_aload_n (pc := 217) S 0 rfl rfl (m_dec eL_law 23 rfl) ?_
      refine ms_iload_n (pc := 218) S 3 rfl rfl (m_dec eL_law 24 rfl) ?_
      refine ms_iconst (pc := 219) S (m_dec eL_law 25 rfl) ?_
      refine ms_iadd (pc := 220) S (m_dec eL_law 26 rfl) ?_
      refine ms_grd fun g5 => ?_
      refine ms_sld (pc := 221) S hX g1 g5 (m_dec eL_law 27 rfl) ?_
      refine ms_aload_n (pc := 222) S 0 rfl rfl (m_dec eL_law 28 rfl) ?_
      refine ms_iload_n (pc := 223) S 3 rfl rfl (m_dec eL_law 29 rfl) ?_
      refine ms_iconst (pc := 224) S (m_dec eL_law 30 rfl) ?_
      refine ms_iadd (pc := 225) S (m_dec eL_law 31 rfl) ?_
      refine ms_grd fun g6 => ?_
      refine ms_sld (pc := 226) S hX g1 g6 (m_dec eL_law 32 rfl) ?_
      refine ms_aload_n (pc := 227) S 0 rfl rfl (m_dec eL_law 33 rfl) ?_
      refine ms_iload_n (pc := 228) S 3 rfl rfl (m_dec eL_law 34 rfl) ?_
      refine ms_iconst (pc := 229) S (m_dec eL_law 35 rfl) ?_
      refine ms_iadd (pc := 230) S (m_dec eL_law 36 rfl) ?_
      refine ms_grd fun g7 => ?_
      refine ms_sld (pc := 231) S hX g1 g7 (m_dec eL_law 37 rfl) ?_
      refine ms_aload_n (pc := 232) S 0 rfl rfl (m_dec eL_law 38 rfl) ?_
      refine ms_iload_n (pc := 233) S 3 rfl rfl (m_dec eL_law 39 rfl) ?_
      refine ms_iconst (pc := 234) S (m_dec eL_law 40 rfl) ?_
      refine ms_iadd (pc := 235) S (m_dec eL_law 41 rfl) ?_
      refine ms_grd fun g8 => ?_
      refine ms_sld (pc := 236) S hX g1 g8 (m_dec eL_law 42 rfl) ?_
      refine ms_aload_n (pc := 237) S 0 rfl rfl (m_dec eL_law 43 rfl) ?_
      refine ms_iload_n (pc := 238) S 3 rfl rfl (m_dec eL_law 44 rfl) ?_
      refine ms_iconst (pc := 239) S (m_dec eL_law 45 rfl) ?_
      refine ms_iadd (pc := 240) S (m_dec eL_law 46 rfl) ?_
      refine ms_grd fun g9 => ?_
      refine ms_sld (pc := 241) S hX g1 g9 (m_dec eL_law 47 rfl) ?_
      refine ms_grd fun g10 => ?_
      refine ms_callVi (pc := 242) S hF (vals := [m_i (xs (m_w (v3 + 1))), m_i (xs (m_w (v3 + 2))), m_i (xs (m_w (v3 + 3))), m_i (xs (m_w (v3 + 4))), m_i (xs (m_w (v3 + 5)))]) (st := []) (hc := vw_10) (hci := by decide) (hcy := rfl) (ht := g10) (hC := (k10_hand _ _ v1 (xs (m_w (v3 + 1))) (xs (m_w (v3 + 2))) (xs (m_w (v3 + 3))) (xs (m_w (v3 + 4))) (xs (m_w (v3 + 5))) h)) (hM := lm_L_13) (hfr := (Nat.le_trans (by decide) hFn)) (hstk := rfl) (hcat := Nat.le_of_ble_eq_true rfl) (hd := (m_dec eL_law 48 rfl)) (k1 := fun r12 h11 => ?_)
      refine ms_aload_n (pc := 245) S 2 rfl rfl (m_dec eL_law 49 rfl) ?_
      refine ms_aload_n (pc := 246) S 0 rfl rfl (m_dec eL_law 50 rfl) ?_
      refine ms_iload_n (pc := 247) S 3 rfl rfl (m_dec eL_law 51 rfl) ?_
      refine ms_iconst (pc := 248) S (m_dec eL_law 52 rfl) ?_
      refine ms_iadd (pc := 249) S (m_dec eL_law 53 rfl) ?_
      refine ms_sld (pc := 250) S hX g1 g5 (m_dec eL_law 54 rfl) ?_
      refine ms_aload_n (pc := 251) S 0 rfl rfl (m_dec eL_law 55 rfl) ?_
      refine ms_iload_n (pc := 252) S 3 rfl rfl (m_dec eL_law 56 rfl) ?_
      refine ms_iconst (pc := 253) S (m_dec eL_law 57 rfl) ?_
      refine ms_iadd (pc := 254) S (m_dec eL_law 58 rfl) ?_
      refine ms_sld (pc := 255) S hX g1 g6 (m_dec eL_law 59 rfl) ?_
      refine ms_aload_n (pc := 256) S 0 rfl rfl (m_dec eL_law 60 rfl) ?_
      refine ms_iload_n (pc := 257) S 3 rfl rfl (m_dec eL_law 61 rfl) ?_
      refine ms_iconst (pc := 258) S (m_dec eL_law 62 rfl) ?_
      refine ms_iadd (pc := 259) S (m_dec eL_law 63 rfl) ?_
      refine ms_sld (pc := 260) S hX g1 g7 (m_dec eL_law 64 rfl) ?_
      refine ms_aload_n (pc := 261) S 0 rfl rfl (m_dec eL_law 65 rfl) ?_
      refine ms_iload_n (pc := 262) S 3 rfl rfl (m_dec eL_law 66 rfl) ?_
      refine ms_iconst (pc := 263) S (m_dec eL_law 67 rfl) ?_
      refine ms_iadd (pc := 264) S (m_dec eL_law 68 rfl) ?_
      refine ms_sld (pc := 265) S hX g1 g8 (m_dec eL_law 69 rfl) ?_
      refine ms_aload_n (pc := 266) S 0 rfl rfl (m_dec eL_law 70 rfl) ?_
      refine ms_iload_n (pc := 267) S 3 rfl rfl (m_dec eL_law 71 rfl) ?_
      refine ms_iconst (pc := 268) S (m_dec eL_law 72 rfl) ?_
      refine ms_iadd (pc := 269) S (m_dec eL_law 73 rfl) ?_
      refine ms_sld (pc := 270) S hX g1 g9 (m_dec eL_law 74 rfl) ?_
      refine ms_grd fun g13 => ?_
      refine ms_callVi (pc := 271) S hF (vals := [m_i (xs (m_w (v3 + 1))), m_i (xs (m_w (v3 + 2))), m_i (xs (m_w (v3 + 3))), m_i (xs (m_w (v3 + 4))), m_i (xs (m_w (v3 + 5)))]) (st := [m_i r12]) (hc := vw_11) (hci := by decide) (hcy := rfl) (ht := g13) (hC := (k11_hand _ _ v2 (xs (m_w (v3 + 1))) (xs (m_w (v3 + 2))) (xs (m_w (v3 + 3))) (xs (m_w (v3 + 4))) (xs (m_w (v3 + 5))) h11)) (hM := lm_L_17) (hfr := (Nat.le_trans (by decide) hFn)) (hstk := rfl) (hcat := Nat.le_of_ble_eq_true rfl) (hd := (m_dec eL_law 75 rfl)) (k1 := fun r15 h14 => ?_)
      refine ms_icmp_eq (pc := 274) S (m_dec eL_law 76 rfl) rfl (fun q16 => ?_) (fun q16 => ?_)
      · refine ms_iinc (pc := 1512) S (L' := [(0, m_r v0), (1, m_r v1), (2, m_r v2), (3, m_i (v3 + 6))]) 3 rfl [1, 2, 3, 0] rfl (m_lt hN rfl) (m_dec eL_law 1066 rfl) ?_
        refine ms_goto (pc := 1515) S (m_dec eL_law 1067 rfl) rfl ?_
        exact ih (v3 + 6) h14
      · refine ms_iconst (pc := 277) S (m_dec eL_law 77 rfl) ?_
        exact ms_ret (pc := 278) E (m_dec eL_law 78 rfl) rfl
    · refine ms_ite (fun q17 => ?_) (fun q17 => ?_)
      · refine ms_swIn (pc := 33) S (m_dec eL_law 21 rfl) 1 q17 (by decide) (by decide) rfl rfl ?_
        refine ms_aload_n (pc := 279) S 1 rfl rfl (m_dec eL_law 79 rfl) ?_
        refine ms_grd fun g18 => ?_
        refine ms_callVi (pc := 280) S hF (vals := []) (st := []) (hc := vw_10) (hci := by decide) (hcy := rfl) (ht := g18) (hC := (k10_drop _ _ v1 h)) (hM := lm_L_18) (hfr := (Nat.le_trans (by decide) hFn)) (hstk := rfl) (hcat := Nat.le_of_ble_eq_true rfl) (hd := (m_dec eL_law 80 rfl)) (k1 := fun r20 h19 => ?_)
        refine ms_aload_n (pc := 283) S 2 rfl rfl (m_dec eL_law 81 rfl) ?_
        refine ms_grd fun g21 => ?_
        refine ms_callVi (pc := 284) S hF (vals := []) (st := [m_i r20]) (hc := vw_11) (hci := by decide) (hcy := rfl) (ht := g21) (hC := (k11_drop _ _ v2 h19)) (hM := lm_L_22) (hfr := (Nat.le_trans (by decide) hFn)) (hstk := rfl) (hcat := Nat.le_of_ble_eq_true rfl) (hd := (m_dec eL_law 82 rfl)) (k1 := fun r23 h22 => ?_)
        refine ms_icmp_eq (pc := 287) S (m_dec eL_law 83 rfl) rfl (fun q24 => ?_) (fun q24 => ?_)
        · refine ms_iinc (pc := 1512) S (L' := [(0, m_r v0), (1, m_r v1), (2, m_r v2), (3, m_i (v3 + 6))]) 3 rfl [1, 2, 3, 0] rfl (m_lt hN rfl) (m_dec eL_law 1066 rfl) ?_
          refine ms_goto (pc := 1515) S (m_dec eL_law 1067 rfl) rfl ?_
          exact ih (v3 + 6) h22
        · refine ms_iconst (pc := 290) S (m_dec eL_law 84 rfl) ?_
          exact ms_ret (pc := 291) E (m_dec eL_law 85 rfl) rfl
      · refine ms_ite (fun q25 => ?_) (fun q25 => ?_)
        · refine ms_swIn (pc := 33) S (m_dec eL_law 21 rfl) 2 q25 (by decide) (by decide) rfl rfl ?_
          refine ms_aload_n (pc := 292) S 1 rfl rfl (m_dec eL_law 86 rfl) ?_
          refine ms_aload_n (pc := 293) S 0 rfl rfl (m_dec eL_law 87 rfl) ?_
          refine ms_iload_n (pc := 294) S 3 rfl rfl (m_dec eL_law 88 rfl) ?_
          refine ms_iconst (pc := 295) S (m_dec eL_law 89 rfl) ?_
          refine ms_iadd (pc := 296) S (m_dec eL_law 90 rfl) ?_
          refine ms_grd fun g26 => ?_
          refine ms_sld (pc := 297) S hX g1 g26 (m_dec eL_law 91 rfl) ?_
          refine ms_grd fun g27 => ?_
          refine ms_callVi (pc := 298) S hF (vals := [m_i (xs (m_w (v3 + 1)))]) (st := []) (hc := vw_10) (hci := by decide) (hcy := rfl) (ht := g27) (hC := (k10_strip _ _ v1 (xs (m_w (v3 + 1))) h)) (hM := lm_L_23) (hfr := (Nat.le_trans (by decide) hFn)) (hstk := rfl) (hcat := Nat.le_of_ble_eq_true rfl) (hd := (m_dec eL_law 92 rfl)) (k1 := fun r29 h28 => ?_)
          refine ms_aload_n (pc := 301) S 2 rfl rfl (m_dec eL_law 93 rfl) ?_
          refine ms_aload_n (pc := 302) S 0 rfl rfl (m_dec eL_law 94 rfl) ?_
          refine ms_iload_n (pc := 303) S 3 rfl rfl (m_dec eL_law 95 rfl) ?_
          refine ms_iconst (pc := 304) S (m_dec eL_law 96 rfl) ?_
          refine ms_iadd (pc := 305) S (m_dec eL_law 97 rfl) ?_
          refine ms_sld (pc := 306) S hX g1 g26 (m_dec eL_law 98 rfl) ?_
          refine ms_grd fun g30 => ?_
          refine ms_callVi (pc := 307) S hF (vals := [m_i (xs (m_w (v3 + 1)))]) (st := [m_i r29]) (hc := vw_11) (hci := by decide) (hcy := rfl) (ht := g30) (hC := (k11_strip _ _ v2 (xs (m_w (v3 + 1))) h28)) (hM := lm_L_27) (hfr := (Nat.le_trans (by decide) hFn)) (hstk := rfl) (hcat := Nat.le_of_ble_eq_true rfl) (hd := (m_dec eL_law 99 rfl)) (k1 := fun r32 h31 => ?_)
          refine ms_icmp_eq (pc := 310) S (m_dec eL_law 100 rfl) rfl (fun q33 => ?_) (fun q33 => ?_)
          · refine ms_iinc (pc := 1512) S (L' := [(0, m_r v0), (1, m_r v1), (2, m_r v2), (3, m_i (v3 + 6))]) 3 rfl [1, 2, 3, 0] rfl (m_lt hN rfl) (m_dec eL_law 1066 rfl) ?_
            refine ms_goto (pc := 1515) S (m_dec eL_law 1067 rfl) rfl ?_
            exact ih (v3 + 6) h31
          · refine ms_iconst (pc := 313) S (m_dec eL_law 101 rfl) ?_
            exact ms_ret (pc := 314) E (m_dec eL_law 102 rfl) rfl
        · refine ms_ite (fun q34 => ?_) (fun q34 => ?_)
          · refine ms_swIn (pc := 33) S (m_dec eL_law 21 rfl) 3 q34 (by decide) (by decide) rfl rfl ?_
            refine ms_aload_n (pc := 315) S 1 rfl rfl (m_dec eL_law 103 rfl) ?_
            refine ms_aload_n (pc := 316) S 0 rfl rfl (m_dec eL_law 104 rfl) ?_
            refine ms_iload_n (pc := 317) S 3 rfl rfl (m_dec eL_law 105 rfl) ?_
            refine ms_iconst (pc := 318) S (m_dec eL_law 106 rfl) ?_
            refine ms_iadd (pc := 319) S (m_dec eL_law 107 rfl) ?_
            refine ms_grd fun g35 => ?_
            refine ms_sld (pc := 320) S hX g1 g35 (m_dec eL_law 108 rfl) ?_
            refine ms_grd fun g36 => ?_
            refine ms_callVz (pc := 321) S hF (vals := [m_i (xs (m_w (v3 + 1)))]) (st := []) (hc := vw_10) (hci := by decide) (hcy := rfl) (ht := g36) (hC := (k10_sliver _ _ v1 (xs (m_w (v3 + 1))) h)) (hM := lm_L_28) (hfr := (Nat.le_trans (by decide) hFn)) (hstk := rfl) (hcat := Nat.le_of_ble_eq_true rfl) (hd := (m_dec eL_law 109 rfl)) (k1 := fun r38 h37 => ?_)
            refine ms_aload_n (pc := 324) S 2 rfl rfl (m_dec eL_law 110 rfl) ?_
            refine ms_aload_n (pc := 325) S 0 rfl rfl (m_dec eL_law 111 rfl) ?_
            refine ms_iload_n (pc := 326) S 3 rfl rfl (m_dec eL_law 112 rfl) ?_
            refine ms_iconst (pc := 327) S (m_dec eL_law 113 rfl) ?_
            refine ms_iadd (pc := 328) S (m_dec eL_law 114 rfl) ?_
            refine ms_sld (pc := 329) S hX g1 g35 (m_dec eL_law 115 rfl) ?_
            refine ms_grd fun g39 => ?_
            refine ms_callVz (pc := 330) S hF (vals := [m_i (xs (m_w (v3 + 1)))]) (st := [m_i (m_b2i r38)]) (hc := vw_11) (hci := by decide) (hcy := rfl) (ht := g39) (hC := (k11_sliver _ _ v2 (xs (m_w (v3 + 1))) h37)) (hM := lm_L_32) (hfr := (Nat.le_trans (by decide) hFn)) (hstk := rfl) (hcat := Nat.le_of_ble_eq_true rfl) (hd := (m_dec eL_law 116 rfl)) (k1 := fun r41 h40 => ?_)
            refine ms_icmp_eq (pc := 333) S (m_dec eL_law 117 rfl) rfl (fun q42 => ?_) (fun q42 => ?_)
            · refine ms_iinc (pc := 1512) S (L' := [(0, m_r v0), (1, m_r v1), (2, m_r v2), (3, m_i (v3 + 6))]) 3 rfl [1, 2, 3, 0] rfl (m_lt hN rfl) (m_dec eL_law 1066 rfl) ?_
              refine ms_goto (pc := 1515) S (m_dec eL_law 1067 rfl) rfl ?_
              exact ih (v3 + 6) h40
            · refine ms_iconst (pc := 336) S (m_dec eL_law 118 rfl) ?_
              exact ms_ret (pc := 337) E (m_dec eL_law 119 rfl) rfl
          · refine ms_ite (fun q43 => ?_) (fun q43 => ?_)
            · refine ms_swIn (pc := 33) S (m_dec eL_law 21 rfl) 4 q43 (by decide) (by decide) rfl rfl ?_
              refine ms_aload_n (pc := 338) S 1 rfl rfl (m_dec eL_law 120 rfl) ?_
              refine ms_aload_n (pc := 339) S 0 rfl rfl (m_dec eL_law 121 rfl) ?_
              refine ms_iload_n (pc := 340) S 3 rfl rfl (m_dec eL_law 122 rfl) ?_
              refine ms_iconst (pc := 341) S (m_dec eL_law 123 rfl) ?_
              refine ms_iadd (pc := 342) S (m_dec eL_law 124 rfl) ?_
              refine ms_grd fun g44 => ?_
              refine ms_sld (pc := 343) S hX g1 g44 (m_dec eL_law 125 rfl) ?_
              refine ms_aload_n (pc := 344) S 0 rfl rfl (m_dec eL_law 126 rfl) ?_
              refine ms_iload_n (pc := 345) S 3 rfl rfl (m_dec eL_law 127 rfl) ?_
              refine ms_iconst (pc := 346) S (m_dec eL_law 128 rfl) ?_
              refine ms_iadd (pc := 347) S (m_dec eL_law 129 rfl) ?_
              refine ms_grd fun g45 => ?_
              refine ms_sld (pc := 348) S hX g1 g45 (m_dec eL_law 130 rfl) ?_
              refine ms_grd fun g46 => ?_
              refine ms_callVi (pc := 349) S hF (vals := [m_i (xs (m_w (v3 + 1))), m_i (xs (m_w (v3 + 2)))]) (st := []) (hc := vw_10) (hci := by decide) (hcy := rfl) (ht := g46) (hC := (k10_cut _ _ v1 (xs (m_w (v3 + 1))) (xs (m_w (v3 + 2))) h)) (hM := lm_L_33) (hfr := (Nat.le_trans (by decide) hFn)) (hstk := rfl) (hcat := Nat.le_of_ble_eq_true rfl) (hd := (m_dec eL_law 131 rfl)) (k1 := fun r48 h47 => ?_)
              refine ms_aload_n (pc := 352) S 2 rfl rfl (m_dec eL_law 132 rfl) ?_
              refine ms_aload_n (pc := 353) S 0 rfl rfl (m_dec eL_law 133 rfl) ?_
              refine ms_iload_n (pc := 354) S 3 rfl rfl (m_dec eL_law 134 rfl) ?_
              refine ms_iconst (pc := 355) S (m_dec eL_law 135 rfl) ?_
              refine ms_iadd (pc := 356) S (m_dec eL_law 136 rfl) ?_
              refine ms_sld (pc := 357) S hX g1 g44 (m_dec eL_law 137 rfl) ?_
              refine ms_aload_n (pc := 358) S 0 rfl rfl (m_dec eL_law 138 rfl) ?_
              refine ms_iload_n (pc := 359) S 3 rfl rfl (m_dec eL_law 139 rfl) ?_
              refine ms_iconst (pc := 360) S (m_dec eL_law 140 rfl) ?_
              refine ms_iadd (pc := 361) S (m_dec eL_law 141 rfl) ?_
              refine ms_sld (pc := 362) S hX g1 g45 (m_dec eL_law 142 rfl) ?_
              refine ms_grd fun g49 => ?_
              refine ms_callVi (pc := 363) S hF (vals := [m_i (xs (m_w (v3 + 1))), m_i (xs (m_w (v3 + 2)))]) (st := [m_i r48]) (hc := vw_11) (hci := by decide) (hcy := rfl) (ht := g49) (hC := (k11_cut _ _ v2 (xs (m_w (v3 + 1))) (xs (m_w (v3 + 2))) h47)) (hM := lm_L_37) (hfr := (Nat.le_trans (by decide) hFn)) (hstk := rfl) (hcat := Nat.le_of_ble_eq_true rfl) (hd := (m_dec eL_law 143 rfl)) (k1 := fun r51 h50 => ?_)
              refine ms_icmp_eq (pc := 366) S (m_dec eL_law 144 rfl) rfl (fun q52 => ?_) (fun q52 => ?_)
              · refine ms_iinc (pc := 1512) S (L' := [(0, m_r v0), (1, m_r v1), (2, m_r v2), (3, m_i (v3 + 6))]) 3 rfl [1, 2, 3, 0] rfl (m_lt hN rfl) (m_dec eL_law 1066 rfl) ?_
                refine ms_goto (pc := 1515) S (m_dec eL_law 1067 rfl) rfl ?_
                exact ih (v3 + 6) h50
              · refine ms_iconst (pc := 369) S (m_dec eL_law 145 rfl) ?_
                exact ms_ret (pc := 370) E (m_dec eL_law 146 rfl) rfl
            · refine ms_ite (fun q53 => ?_) (fun q53 => ?_)
              · refine ms_swIn (pc := 33) S (m_dec eL_law 21 rfl) 5 q53 (by decide) (by decide) rfl rfl ?_
                refine ms_aload_n (pc := 371) S 1 rfl rfl (m_dec eL_law 147 rfl) ?_
                refine ms_aload_n (pc := 372) S 0 rfl rfl (m_dec eL_law 148 rfl) ?_
                refine ms_iload_n (pc := 373) S 3 rfl rfl (m_dec eL_law 149 rfl) ?_
                refine ms_iconst (pc := 374) S (m_dec eL_law 150 rfl) ?_
                refine ms_iadd (pc := 375) S (m_dec eL_law 151 rfl) ?_
                refine ms_grd fun g54 => ?_
                refine ms_sld (pc := 376) S hX g1 g54 (m_dec eL_law 152 rfl) ?_
                refine ms_grd fun g55 => ?_
                refine ms_callVi (pc := 377) S hF (vals := [m_i (xs (m_w (v3 + 1)))]) (st := []) (hc := vw_10) (hci := by decide) (hcy := rfl) (ht := g55) (hC := (k10_turn _ _ v1 (xs (m_w (v3 + 1))) h)) (hM := lm_L_38) (hfr := (Nat.le_trans (by decide) hFn)) (hstk := rfl) (hcat := Nat.le_of_ble_eq_true rfl) (hd := (m_dec eL_law 153 rfl)) (k1 := fun r57 h56 => ?_)
                refine ms_aload_n (pc := 380) S 2 rfl rfl (m_dec eL_law 154 rfl) ?_
                refine ms_aload_n (pc := 381) S 0 rfl rfl (m_dec eL_law 155 rfl) ?_
                refine ms_iload_n (pc := 382) S 3 rfl rfl (m_dec eL_law 156 rfl) ?_
                refine ms_iconst (pc := 383) S (m_dec eL_law 157 rfl) ?_
                refine ms_iadd (pc := 384) S (m_dec eL_law 158 rfl) ?_
                refine ms_sld (pc := 385) S hX g1 g54 (m_dec eL_law 159 rfl) ?_
                refine ms_grd fun g58 => ?_
                refine ms_callVi (pc := 386) S hF (vals := [m_i (xs (m_w (v3 + 1)))]) (st := [m_i r57]) (hc := vw_11) (hci := by decide) (hcy := rfl) (ht := g58) (hC := (k11_turn _ _ v2 (xs (m_w (v3 + 1))) h56)) (hM := lm_L_41) (hfr := (Nat.le_trans (by decide) hFn)) (hstk := rfl) (hcat := Nat.le_of_ble_eq_true rfl) (hd := (m_dec eL_law 160 rfl)) (k1 := fun r60 h59 => ?_)
                refine ms_icmp_eq (pc := 389) S (m_dec eL_law 161 rfl) rfl (fun q61 => ?_) (fun q61 => ?_)
                · refine ms_iinc (pc := 1512) S (L' := [(0, m_r v0), (1, m_r v1), (2, m_r v2), (3, m_i (v3 + 6))]) 3 rfl [1, 2, 3, 0] rfl (m_lt hN rfl) (m_dec eL_law 1066 rfl) ?_
                  refine ms_goto (pc := 1515) S (m_dec eL_law 1067 rfl) rfl ?_
                  exact ih (v3 + 6) h59
                · refine ms_iconst (pc := 392) S (m_dec eL_law 162 rfl) ?_
                  exact ms_ret (pc := 393) E (m_dec eL_law 163 rfl) rfl
              · refine ms_ite (fun q62 => ?_) (fun q62 => ?_)
                · refine ms_swIn (pc := 33) S (m_dec eL_law 21 rfl) 6 q62 (by decide) (by decide) rfl rfl ?_
                  refine ms_aload_n (pc := 394) S 1 rfl rfl (m_dec eL_law 164 rfl) ?_
                  refine ms_aload_n (pc := 395) S 0 rfl rfl (m_dec eL_law 165 rfl) ?_
                  refine ms_iload_n (pc := 396) S 3 rfl rfl (m_dec eL_law 166 rfl) ?_
                  refine ms_iconst (pc := 397) S (m_dec eL_law 167 rfl) ?_
                  refine ms_iadd (pc := 398) S (m_dec eL_law 168 rfl) ?_
                  refine ms_grd fun g63 => ?_
                  refine ms_sld (pc := 399) S hX g1 g63 (m_dec eL_law 169 rfl) ?_
                  refine ms_grd fun g64 => ?_
                  refine ms_callVi (pc := 400) S hF (vals := [m_i (xs (m_w (v3 + 1)))]) (st := []) (hc := vw_10) (hci := by decide) (hcy := rfl) (ht := g64) (hC := (k10_loop _ _ v1 (xs (m_w (v3 + 1))) h)) (hM := lm_L_42) (hfr := (Nat.le_trans (by decide) hFn)) (hstk := rfl) (hcat := Nat.le_of_ble_eq_true rfl) (hd := (m_dec eL_law 170 rfl)) (k1 := fun r66 h65 => ?_)
                  refine ms_aload_n (pc := 403) S 2 rfl rfl (m_dec eL_law 171 rfl) ?_
                  refine ms_aload_n (pc := 404) S 0 rfl rfl (m_dec eL_law 172 rfl) ?_
                  refine ms_iload_n (pc := 405) S 3 rfl rfl (m_dec eL_law 173 rfl) ?_
                  refine ms_iconst (pc := 406) S (m_dec eL_law 174 rfl) ?_
                  refine ms_iadd (pc := 407) S (m_dec eL_law 175 rfl) ?_
                  refine ms_sld (pc := 408) S hX g1 g63 (m_dec eL_law 176 rfl) ?_
                  refine ms_grd fun g67 => ?_
                  refine ms_callVi (pc := 409) S hF (vals := [m_i (xs (m_w (v3 + 1)))]) (st := [m_i r66]) (hc := vw_11) (hci := by decide) (hcy := rfl) (ht := g67) (hC := (k11_loop _ _ v2 (xs (m_w (v3 + 1))) h65)) (hM := lm_L_45) (hfr := (Nat.le_trans (by decide) hFn)) (hstk := rfl) (hcat := Nat.le_of_ble_eq_true rfl) (hd := (m_dec eL_law 177 rfl)) (k1 := fun r69 h68 => ?_)
                  refine ms_icmp_eq (pc := 412) S (m_dec eL_law 178 rfl) rfl (fun q70 => ?_) (fun q70 => ?_)
                  · refine ms_iinc (pc := 1512) S (L' := [(0, m_r v0), (1, m_r v1), (2, m_r v2), (3, m_i (v3 + 6))]) 3 rfl [1, 2, 3, 0] rfl (m_lt hN rfl) (m_dec eL_law 1066 rfl) ?_
                    refine ms_goto (pc := 1515) S (m_dec eL_law 1067 rfl) rfl ?_
                    exact ih (v3 + 6) h68
                  · refine ms_iconst (pc := 415) S (m_dec eL_law 179 rfl) ?_
                    exact ms_ret (pc := 416) E (m_dec eL_law 180 rfl) rfl
                · refine ms_ite (fun q71 => ?_) (fun q71 => ?_)
                  · refine ms_swIn (pc := 33) S (m_dec eL_law 21 rfl) 7 q71 (by decide) (by decide) rfl rfl ?_
                    refine ms_aload_n (pc := 417) S 1 rfl rfl (m_dec eL_law 181 rfl) ?_
                    refine ms_aload_n (pc := 418) S 0 rfl rfl (m_dec eL_law 182 rfl) ?_
                    refine ms_iload_n (pc := 419) S 3 rfl rfl (m_dec eL_law 183 rfl) ?_
                    refine ms_iconst (pc := 420) S (m_dec eL_law 184 rfl) ?_
                    refine ms_iadd (pc := 421) S (m_dec eL_law 185 rfl) ?_
                    refine ms_grd fun g72 => ?_
                    refine ms_sld (pc := 422) S hX g1 g72 (m_dec eL_law 186 rfl) ?_
                    refine ms_grd fun g73 => ?_
                    refine ms_callVi (pc := 423) S hF (vals := [m_i (xs (m_w (v3 + 1)))]) (st := []) (hc := vw_10) (hci := by decide) (hcy := rfl) (ht := g73) (hC := (k10_seam _ _ v1 (xs (m_w (v3 + 1))) h)) (hM := lm_L_46) (hfr := (Nat.le_trans (by decide) hFn)) (hstk := rfl) (hcat := Nat.le_of_ble_eq_true rfl) (hd := (m_dec eL_law 187 rfl)) (k1 := fun r75 h74 => ?_)
                    refine ms_aload_n (pc := 426) S 2 rfl rfl (m_dec eL_law 188 rfl) ?_
                    refine ms_aload_n (pc := 427) S 0 rfl rfl (m_dec eL_law 189 rfl) ?_
                    refine ms_iload_n (pc := 428) S 3 rfl rfl (m_dec eL_law 190 rfl) ?_
                    refine ms_iconst (pc := 429) S (m_dec eL_law 191 rfl) ?_
                    refine ms_iadd (pc := 430) S (m_dec eL_law 192 rfl) ?_
                    refine ms_sld (pc := 431) S hX g1 g72 (m_dec eL_law 193 rfl) ?_
                    refine ms_grd fun g76 => ?_
                    refine ms_callVi (pc := 432) S hF (vals := [m_i (xs (m_w (v3 + 1)))]) (st := [m_i r75]) (hc := vw_11) (hci := by decide) (hcy := rfl) (ht := g76) (hC := (k11_seam _ _ v2 (xs (m_w (v3 + 1))) h74)) (hM := lm_L_49) (hfr := (Nat.le_trans (by decide) hFn)) (hstk := rfl) (hcat := Nat.le_of_ble_eq_true rfl) (hd := (m_dec eL_law 194 rfl)) (k1 := fun r78 h77 => ?_)
                    refine ms_icmp_eq (pc := 435) S (m_dec eL_law 195 rfl) rfl (fun q79 => ?_) (fun q79 => ?_)
                    · refine ms_iinc (pc := 1512) S (L' := [(0, m_r v0), (1, m_r v1), (2, m_r v2), (3, m_i (v3 + 6))]) 3 rfl [1, 2, 3, 0] rfl (m_lt hN rfl) (m_dec eL_law 1066 rfl) ?_
                      refine ms_goto (pc := 1515) S (m_dec eL_law 1067 rfl) rfl ?_
                      exact ih (v3 + 6) h77
                    · refine ms_iconst (pc := 438) S (m_dec eL_law 196 rfl) ?_
                      exact ms_ret (pc := 439) E (m_dec eL_law 197 rfl) rfl
                  · refine ms_ite (fun q80 => ?_) (fun q80 => ?_)
                    · refine ms_swIn (pc := 33) S (m_dec eL_law 21 rfl) 8 q80 (by decide) (by decide) rfl rfl ?_
                      refine ms_aload_n (pc := 440) S 1 rfl rfl (m_dec eL_law 198 rfl) ?_
                      refine ms_aload_n (pc := 441) S 0 rfl rfl (m_dec eL_law 199 rfl) ?_
                      refine ms_iload_n (pc := 442) S 3 rfl rfl (m_dec eL_law 200 rfl) ?_
                      refine ms_iconst (pc := 443) S (m_dec eL_law 201 rfl) ?_
                      refine ms_iadd (pc := 444) S (m_dec eL_law 202 rfl) ?_
                      refine ms_grd fun g81 => ?_
                      refine ms_sld (pc := 445) S hX g1 g81 (m_dec eL_law 203 rfl) ?_
                      refine ms_aload_n (pc := 446) S 0 rfl rfl (m_dec eL_law 204 rfl) ?_
                      refine ms_iload_n (pc := 447) S 3 rfl rfl (m_dec eL_law 205 rfl) ?_
                      refine ms_iconst (pc := 448) S (m_dec eL_law 206 rfl) ?_
                      refine ms_iadd (pc := 449) S (m_dec eL_law 207 rfl) ?_
                      refine ms_grd fun g82 => ?_
                      refine ms_sld (pc := 450) S hX g1 g82 (m_dec eL_law 208 rfl) ?_
                      refine ms_aload_n (pc := 451) S 0 rfl rfl (m_dec eL_law 209 rfl) ?_
                      refine ms_iload_n (pc := 452) S 3 rfl rfl (m_dec eL_law 210 rfl) ?_
                      refine ms_iconst (pc := 453) S (m_dec eL_law 211 rfl) ?_
                      refine ms_iadd (pc := 454) S (m_dec eL_law 212 rfl) ?_
                      refine ms_grd fun g83 => ?_
                      refine ms_sld (pc := 455) S hX g1 g83 (m_dec eL_law 213 rfl) ?_
                      refine ms_grd fun g84 => ?_
                      refine ms_callVi (pc := 456) S hF (vals := [m_i (xs (m_w (v3 + 1))), m_i (xs (m_w (v3 + 2))), m_i (xs (m_w (v3 + 3)))]) (st := []) (hc := vw_10) (hci := by decide) (hcy := rfl) (ht := g84) (hC := (k10_splice _ _ v1 (xs (m_w (v3 + 1))) (xs (m_w (v3 + 2))) (xs (m_w (v3 + 3))) h)) (hM := lm_L_50) (hfr := (Nat.le_trans (by decide) hFn)) (hstk := rfl) (hcat := Nat.le_of_ble_eq_true rfl) (hd := (m_dec eL_law 214 rfl)) (k1 := fun r86 h85 => ?_)
                      refine ms_aload_n (pc := 459) S 2 rfl rfl (m_dec eL_law 215 rfl) ?_
                      refine ms_aload_n (pc := 460) S 0 rfl rfl (m_dec eL_law 216 rfl) ?_
                      refine ms_iload_n (pc := 461) S 3 rfl rfl (m_dec eL_law 217 rfl) ?_
                      refine ms_iconst (pc := 462) S (m_dec eL_law 218 rfl) ?_
                      refine ms_iadd (pc := 463) S (m_dec eL_law 219 rfl) ?_
                      refine ms_sld (pc := 464) S hX g1 g81 (m_dec eL_law 220 rfl) ?_
                      refine ms_aload_n (pc := 465) S 0 rfl rfl (m_dec eL_law 221 rfl) ?_
                      refine ms_iload_n (pc := 466) S 3 rfl rfl (m_dec eL_law 222 rfl) ?_
                      refine ms_iconst (pc := 467) S (m_dec eL_law 223 rfl) ?_
                      refine ms_iadd (pc := 468) S (m_dec eL_law 224 rfl) ?_
                      refine ms_sld (pc := 469) S hX g1 g82 (m_dec eL_law 225 rfl) ?_
                      refine ms_aload_n (pc := 470) S 0 rfl rfl (m_dec eL_law 226 rfl) ?_
                      refine ms_iload_n (pc := 471) S 3 rfl rfl (m_dec eL_law 227 rfl) ?_
                      refine ms_iconst (pc := 472) S (m_dec eL_law 228 rfl) ?_
                      refine ms_iadd (pc := 473) S (m_dec eL_law 229 rfl) ?_
                      refine ms_sld (pc := 474) S hX g1 g83 (m_dec eL_law 230 rfl) ?_
                      refine ms_grd fun g87 => ?_
                      refine ms_callVi (pc := 475) S hF (vals := [m_i (xs (m_w (v3 + 1))), m_i (xs (m_w (v3 + 2))), m_i (xs (m_w (v3 + 3)))]) (st := [m_i r86]) (hc := vw_11) (hci := by decide) (hcy := rfl) (ht := g87) (hC := (k11_splice _ _ v2 (xs (m_w (v3 + 1))) (xs (m_w (v3 + 2))) (xs (m_w (v3 + 3))) h85)) (hM := lm_L_54) (hfr := (Nat.le_trans (by decide) hFn)) (hstk := rfl) (hcat := Nat.le_of_ble_eq_true rfl) (hd := (m_dec eL_law 231 rfl)) (k1 := fun r89 h88 => ?_)
                      refine ms_icmp_eq (pc := 478) S (m_dec eL_law 232 rfl) rfl (fun q90 => ?_) (fun q90 => ?_)
                      · refine ms_iinc (pc := 1512) S (L' := [(0, m_r v0), (1, m_r v1), (2, m_r v2), (3, m_i (v3 + 6))]) 3 rfl [1, 2, 3, 0] rfl (m_lt hN rfl) (m_dec eL_law 1066 rfl) ?_
                        refine ms_goto (pc := 1515) S (m_dec eL_law 1067 rfl) rfl ?_
                        exact ih (v3 + 6) h88
                      · refine ms_iconst (pc := 481) S (m_dec eL_law 233 rfl) ?_
                        exact ms_ret (pc := 482) E (m_dec eL_law 234 rfl) rfl
                    · refine ms_ite (fun q91 => ?_) (fun q91 => ?_)
                      · refine ms_swIn (pc := 33) S (m_dec eL_law 21 rfl) 9 q91 (by decide) (by decide) rfl rfl ?_
                        refine ms_aload_n (pc := 483) S 1 rfl rfl (m_dec eL_law 235 rfl) ?_
                        refine ms_aload_n (pc := 484) S 0 rfl rfl (m_dec eL_law 236 rfl) ?_
                        refine ms_iload_n (pc := 485) S 3 rfl rfl (m_dec eL_law 237 rfl) ?_
                        refine ms_iconst (pc := 486) S (m_dec eL_law 238 rfl) ?_
                        refine ms_iadd (pc := 487) S (m_dec eL_law 239 rfl) ?_
                        refine ms_grd fun g92 => ?_
                        refine ms_sld (pc := 488) S hX g1 g92 (m_dec eL_law 240 rfl) ?_
                        refine ms_aload_n (pc := 489) S 0 rfl rfl (m_dec eL_law 241 rfl) ?_
                        refine ms_iload_n (pc := 490) S 3 rfl rfl (m_dec eL_law 242 rfl) ?_
                        refine ms_iconst (pc := 491) S (m_dec eL_law 243 rfl) ?_
                        refine ms_iadd (pc := 492) S (m_dec eL_law 244 rfl) ?_
                        refine ms_grd fun g93 => ?_
                        refine ms_sld (pc := 493) S hX g1 g93 (m_dec eL_law 245 rfl) ?_
                        refine ms_aload_n (pc := 494) S 0 rfl rfl (m_dec eL_law 246 rfl) ?_
                        refine ms_iload_n (pc := 495) S 3 rfl rfl (m_dec eL_law 247 rfl) ?_
                        refine ms_iconst (pc := 496) S (m_dec eL_law 248 rfl) ?_
                        refine ms_iadd (pc := 497) S (m_dec eL_law 249 rfl) ?_
                        refine ms_grd fun g94 => ?_
                        refine ms_sld (pc := 498) S hX g1 g94 (m_dec eL_law 250 rfl) ?_
                        refine ms_grd fun g95 => ?_
                        refine ms_callVi (pc := 499) S hF (vals := [m_i (xs (m_w (v3 + 1))), m_i (xs (m_w (v3 + 2))), m_i (xs (m_w (v3 + 3)))]) (st := []) (hc := vw_10) (hci := by decide) (hcy := rfl) (ht := g95) (hC := (k10_machine _ _ v1 (xs (m_w (v3 + 1))) (xs (m_w (v3 + 2))) (xs (m_w (v3 + 3))) h)) (hM := lm_L_55) (hfr := (Nat.le_trans (by decide) hFn)) (hstk := rfl) (hcat := Nat.le_of_ble_eq_true rfl) (hd := (m_dec eL_law 251 rfl)) (k1 := fun r97 h96 => ?_)
                        refine ms_aload_n (pc := 502) S 2 rfl rfl (m_dec eL_law 252 rfl) ?_
                        refine ms_aload_n (pc := 503) S 0 rfl rfl (m_dec eL_law 253 rfl) ?_
                        refine ms_iload_n (pc := 504) S 3 rfl rfl (m_dec eL_law 254 rfl) ?_
                        refine ms_iconst (pc := 505) S (m_dec eL_law 255 rfl) ?_
                        refine ms_iadd (pc := 506) S (m_dec eL_law 256 rfl) ?_
                        refine ms_sld (pc := 507) S hX g1 g92 (m_dec eL_law 257 rfl) ?_
                        refine ms_aload_n (pc := 508) S 0 rfl rfl (m_dec eL_law 258 rfl) ?_
                        refine ms_iload_n (pc := 509) S 3 rfl rfl (m_dec eL_law 259 rfl) ?_
                        refine ms_iconst (pc := 510) S (m_dec eL_law 260 rfl) ?_
                        refine ms_iadd (pc := 511) S (m_dec eL_law 261 rfl) ?_
                        refine ms_sld (pc := 512) S hX g1 g93 (m_dec eL_law 262 rfl) ?_
                        refine ms_aload_n (pc := 513) S 0 rfl rfl (m_dec eL_law 263 rfl) ?_
                        refine ms_iload_n (pc := 514) S 3 rfl rfl (m_dec eL_law 264 rfl) ?_
                        refine ms_iconst (pc := 515) S (m_dec eL_law 265 rfl) ?_
                        refine ms_iadd (pc := 516) S (m_dec eL_law 266 rfl) ?_
                        refine ms_sld (pc := 517) S hX g1 g94 (m_dec eL_law 267 rfl) ?_
                        refine ms_grd fun g98 => ?_
                        refine ms_callVi (pc := 518) S hF (vals := [m_i (xs (m_w (v3 + 1))), m_i (xs (m_w (v3 + 2))), m_i (xs (m_w (v3 + 3)))]) (st := [m_i r97]) (hc := vw_11) (hci := by decide) (hcy := rfl) (ht := g98) (hC := (k11_machine _ _ v2 (xs (m_w (v3 + 1))) (xs (m_w (v3 + 2))) (xs (m_w (v3 + 3))) h96)) (hM := lm_L_58) (hfr := (Nat.le_trans (by decide) hFn)) (hstk := rfl) (hcat := Nat.le_of_ble_eq_true rfl) (hd := (m_dec eL_law 268 rfl)) (k1 := fun r100 h99 => ?_)
                        refine ms_icmp_eq (pc := 521) S (m_dec eL_law 269 rfl) rfl (fun q101 => ?_) (fun q101 => ?_)
                        · refine ms_iinc (pc := 1512) S (L' := [(0, m_r v0), (1, m_r v1), (2, m_r v2), (3, m_i (v3 + 6))]) 3 rfl [1, 2, 3, 0] rfl (m_lt hN rfl) (m_dec eL_law 1066 rfl) ?_
                          refine ms_goto (pc := 1515) S (m_dec eL_law 1067 rfl) rfl ?_
                          exact ih (v3 + 6) h99
                        · refine ms_iconst (pc := 524) S (m_dec eL_law 270 rfl) ?_
                          exact ms_ret (pc := 525) E (m_dec eL_law 271 rfl) rfl
                      · refine ms_ite (fun q102 => ?_) (fun q102 => ?_)
                        · refine ms_swIn (pc := 33) S (m_dec eL_law 21 rfl) 10 q102 (by decide) (by decide) rfl rfl ?_
                          refine ms_aload_n (pc := 526) S 1 rfl rfl (m_dec eL_law 272 rfl) ?_
                          refine ms_aload_n (pc := 527) S 0 rfl rfl (m_dec eL_law 273 rfl) ?_
                          refine ms_iload_n (pc := 528) S 3 rfl rfl (m_dec eL_law 274 rfl) ?_
                          refine ms_iconst (pc := 529) S (m_dec eL_law 275 rfl) ?_
                          refine ms_iadd (pc := 530) S (m_dec eL_law 276 rfl) ?_
                          refine ms_grd fun g103 => ?_
                          refine ms_sld (pc := 531) S hX g1 g103 (m_dec eL_law 277 rfl) ?_
                          refine ms_aload_n (pc := 532) S 0 rfl rfl (m_dec eL_law 278 rfl) ?_
                          refine ms_iload_n (pc := 533) S 3 rfl rfl (m_dec eL_law 279 rfl) ?_
                          refine ms_iconst (pc := 534) S (m_dec eL_law 280 rfl) ?_
                          refine ms_iadd (pc := 535) S (m_dec eL_law 281 rfl) ?_
                          refine ms_grd fun g104 => ?_
                          refine ms_sld (pc := 536) S hX g1 g104 (m_dec eL_law 282 rfl) ?_
                          refine ms_grd fun g105 => ?_
                          refine ms_callVi (pc := 537) S hF (vals := [m_i (xs (m_w (v3 + 1))), m_i (xs (m_w (v3 + 2)))]) (st := []) (hc := vw_10) (hci := by decide) (hcy := rfl) (ht := g105) (hC := (k10_copy _ _ v1 (xs (m_w (v3 + 1))) (xs (m_w (v3 + 2))) h)) (hM := lm_L_59) (hfr := (Nat.le_trans (by decide) hFn)) (hstk := rfl) (hcat := Nat.le_of_ble_eq_true rfl) (hd := (m_dec eL_law 283 rfl)) (k1 := fun r107 h106 => ?_)
                          refine ms_aload_n (pc := 540) S 2 rfl rfl (m_dec eL_law 284 rfl) ?_
                          refine ms_aload_n (pc := 541) S 0 rfl rfl (m_dec eL_law 285 rfl) ?_
                          refine ms_iload_n (pc := 542) S 3 rfl rfl (m_dec eL_law 286 rfl) ?_
                          refine ms_iconst (pc := 543) S (m_dec eL_law 287 rfl) ?_
                          refine ms_iadd (pc := 544) S (m_dec eL_law 288 rfl) ?_
                          refine ms_sld (pc := 545) S hX g1 g103 (m_dec eL_law 289 rfl) ?_
                          refine ms_aload_n (pc := 546) S 0 rfl rfl (m_dec eL_law 290 rfl) ?_
                          refine ms_iload_n (pc := 547) S 3 rfl rfl (m_dec eL_law 291 rfl) ?_
                          refine ms_iconst (pc := 548) S (m_dec eL_law 292 rfl) ?_
                          refine ms_iadd (pc := 549) S (m_dec eL_law 293 rfl) ?_
                          refine ms_sld (pc := 550) S hX g1 g104 (m_dec eL_law 294 rfl) ?_
                          refine ms_grd fun g108 => ?_
                          refine ms_callVi (pc := 551) S hF (vals := [m_i (xs (m_w (v3 + 1))), m_i (xs (m_w (v3 + 2)))]) (st := [m_i r107]) (hc := vw_11) (hci := by decide) (hcy := rfl) (ht := g108) (hC := (k11_copy _ _ v2 (xs (m_w (v3 + 1))) (xs (m_w (v3 + 2))) h106)) (hM := lm_L_62) (hfr := (Nat.le_trans (by decide) hFn)) (hstk := rfl) (hcat := Nat.le_of_ble_eq_true rfl) (hd := (m_dec eL_law 295 rfl)) (k1 := fun r110 h109 => ?_)
                          refine ms_icmp_eq (pc := 554) S (m_dec eL_law 296 rfl) rfl (fun q111 => ?_) (fun q111 => ?_)
                          · refine ms_iinc (pc := 1512) S (L' := [(0, m_r v0), (1, m_r v1), (2, m_r v2), (3, m_i (v3 + 6))]) 3 rfl [1, 2, 3, 0] rfl (m_lt hN rfl) (m_dec eL_law 1066 rfl) ?_
                            refine ms_goto (pc := 1515) S (m_dec eL_law 1067 rfl) rfl ?_
                            exact ih (v3 + 6) h109
                          · refine ms_iconst (pc := 557) S (m_dec eL_law 297 rfl) ?_
                            exact ms_ret (pc := 558) E (m_dec eL_law 298 rfl) rfl
                        · refine ms_ite (fun q112 => ?_) (fun q112 => ?_)
                          · refine ms_swIn (pc := 33) S (m_dec eL_law 21 rfl) 11 q112 (by decide) (by decide) rfl rfl ?_
                            refine ms_aload_n (pc := 559) S 1 rfl rfl (m_dec eL_law 299 rfl) ?_
                            refine ms_aload_n (pc := 560) S 0 rfl rfl (m_dec eL_law 300 rfl) ?_
                            refine ms_iload_n (pc := 561) S 3 rfl rfl (m_dec eL_law 301 rfl) ?_
                            refine ms_iconst (pc := 562) S (m_dec eL_law 302 rfl) ?_
                            refine ms_iadd (pc := 563) S (m_dec eL_law 303 rfl) ?_
                            refine ms_grd fun g113 => ?_
                            refine ms_sld (pc := 564) S hX g1 g113 (m_dec eL_law 304 rfl) ?_
                            refine ms_aload_n (pc := 565) S 0 rfl rfl (m_dec eL_law 305 rfl) ?_
                            refine ms_iload_n (pc := 566) S 3 rfl rfl (m_dec eL_law 306 rfl) ?_
                            refine ms_iconst (pc := 567) S (m_dec eL_law 307 rfl) ?_
                            refine ms_iadd (pc := 568) S (m_dec eL_law 308 rfl) ?_
                            refine ms_grd fun g114 => ?_
                            refine ms_sld (pc := 569) S hX g1 g114 (m_dec eL_law 309 rfl) ?_
                            refine ms_aload_n (pc := 570) S 0 rfl rfl (m_dec eL_law 310 rfl) ?_
                            refine ms_iload_n (pc := 571) S 3 rfl rfl (m_dec eL_law 311 rfl) ?_
                            refine ms_iconst (pc := 572) S (m_dec eL_law 312 rfl) ?_
                            refine ms_iadd (pc := 573) S (m_dec eL_law 313 rfl) ?_
                            refine ms_grd fun g115 => ?_
                            refine ms_sld (pc := 574) S hX g1 g115 (m_dec eL_law 314 rfl) ?_
                            refine ms_aload_n (pc := 575) S 0 rfl rfl (m_dec eL_law 315 rfl) ?_
                            refine ms_iload_n (pc := 576) S 3 rfl rfl (m_dec eL_law 316 rfl) ?_
                            refine ms_iconst (pc := 577) S (m_dec eL_law 317 rfl) ?_
                            refine ms_iadd (pc := 578) S (m_dec eL_law 318 rfl) ?_
                            refine ms_grd fun g116 => ?_
                            refine ms_sld (pc := 579) S hX g1 g116 (m_dec eL_law 319 rfl) ?_
                            refine ms_grd fun g117 => ?_
                            refine ms_callVi (pc := 580) S hF (vals := [m_i (xs (m_w (v3 + 1))), m_i (xs (m_w (v3 + 2))), m_i (xs (m_w (v3 + 3))), m_i (xs (m_w (v3 + 4)))]) (st := []) (hc := vw_10) (hci := by decide) (hcy := rfl) (ht := g117) (hC := (k10_speed _ _ v1 (xs (m_w (v3 + 1))) (xs (m_w (v3 + 2))) (xs (m_w (v3 + 3))) (xs (m_w (v3 + 4))) h)) (hM := lm_L_63) (hfr := (Nat.le_trans (by decide) hFn)) (hstk := rfl) (hcat := Nat.le_of_ble_eq_true rfl) (hd := (m_dec eL_law 320 rfl)) (k1 := fun r119 h118 => ?_)
                            refine ms_aload_n (pc := 583) S 2 rfl rfl (m_dec eL_law 321 rfl) ?_
                            refine ms_aload_n (pc := 584) S 0 rfl rfl (m_dec eL_law 322 rfl) ?_
                            refine ms_iload_n (pc := 585) S 3 rfl rfl (m_dec eL_law 323 rfl) ?_
                            refine ms_iconst (pc := 586) S (m_dec eL_law 324 rfl) ?_
                            refine ms_iadd (pc := 587) S (m_dec eL_law 325 rfl) ?_
                            refine ms_sld (pc := 588) S hX g1 g113 (m_dec eL_law 326 rfl) ?_
                            refine ms_aload_n (pc := 589) S 0 rfl rfl (m_dec eL_law 327 rfl) ?_
                            refine ms_iload_n (pc := 590) S 3 rfl rfl (m_dec eL_law 328 rfl) ?_
                            refine ms_iconst (pc := 591) S (m_dec eL_law 329 rfl) ?_
                            refine ms_iadd (pc := 592) S (m_dec eL_law 330 rfl) ?_
                            refine ms_sld (pc := 593) S hX g1 g114 (m_dec eL_law 331 rfl) ?_
                            refine ms_aload_n (pc := 594) S 0 rfl rfl (m_dec eL_law 332 rfl) ?_
                            refine ms_iload_n (pc := 595) S 3 rfl rfl (m_dec eL_law 333 rfl) ?_
                            refine ms_iconst (pc := 596) S (m_dec eL_law 334 rfl) ?_
                            refine ms_iadd (pc := 597) S (m_dec eL_law 335 rfl) ?_
                            refine ms_sld (pc := 598) S hX g1 g115 (m_dec eL_law 336 rfl) ?_
                            refine ms_aload_n (pc := 599) S 0 rfl rfl (m_dec eL_law 337 rfl) ?_
                            refine ms_iload_n (pc := 600) S 3 rfl rfl (m_dec eL_law 338 rfl) ?_
                            refine ms_iconst (pc := 601) S (m_dec eL_law 339 rfl) ?_
                            refine ms_iadd (pc := 602) S (m_dec eL_law 340 rfl) ?_
                            refine ms_sld (pc := 603) S hX g1 g116 (m_dec eL_law 341 rfl) ?_
                            refine ms_grd fun g120 => ?_
                            refine ms_callVi (pc := 604) S hF (vals := [m_i (xs (m_w (v3 + 1))), m_i (xs (m_w (v3 + 2))), m_i (xs (m_w (v3 + 3))), m_i (xs (m_w (v3 + 4)))]) (st := [m_i r119]) (hc := vw_11) (hci := by decide) (hcy := rfl) (ht := g120) (hC := (k11_speed _ _ v2 (xs (m_w (v3 + 1))) (xs (m_w (v3 + 2))) (xs (m_w (v3 + 3))) (xs (m_w (v3 + 4))) h118)) (hM := lm_L_67) (hfr := (Nat.le_trans (by decide) hFn)) (hstk := rfl) (hcat := Nat.le_of_ble_eq_true rfl) (hd := (m_dec eL_law 342 rfl)) (k1 := fun r122 h121 => ?_)
                            refine ms_icmp_eq (pc := 607) S (m_dec eL_law 343 rfl) rfl (fun q123 => ?_) (fun q123 => ?_)
                            · refine ms_iinc (pc := 1512) S (L' := [(0, m_r v0), (1, m_r v1), (2, m_r v2), (3, m_i (v3 + 6))]) 3 rfl [1, 2, 3, 0] rfl (m_lt hN rfl) (m_dec eL_law 1066 rfl) ?_
                              refine ms_goto (pc := 1515) S (m_dec eL_law 1067 rfl) rfl ?_
                              exact ih (v3 + 6) h121
                            · refine ms_iconst (pc := 610) S (m_dec eL_law 344 rfl) ?_
                              exact ms_ret (pc := 611) E (m_dec eL_law 345 rfl) rfl
                          · refine ms_ite (fun q124 => ?_) (fun q124 => ?_)
                            · refine ms_swIn (pc := 33) S (m_dec eL_law 21 rfl) 12 q124 (by decide) (by decide) rfl rfl ?_
                              refine ms_aload_n (pc := 612) S 1 rfl rfl (m_dec eL_law 346 rfl) ?_
                              refine ms_aload_n (pc := 613) S 0 rfl rfl (m_dec eL_law 347 rfl) ?_
                              refine ms_iload_n (pc := 614) S 3 rfl rfl (m_dec eL_law 348 rfl) ?_
                              refine ms_iconst (pc := 615) S (m_dec eL_law 349 rfl) ?_
                              refine ms_iadd (pc := 616) S (m_dec eL_law 350 rfl) ?_
                              refine ms_grd fun g125 => ?_
                              refine ms_sld (pc := 617) S hX g1 g125 (m_dec eL_law 351 rfl) ?_
                              refine ms_grd fun g126 => ?_
                              refine ms_callVz (pc := 618) S hF (vals := [m_i (xs (m_w (v3 + 1)))]) (st := []) (hc := vw_10) (hci := by decide) (hcy := rfl) (ht := g126) (hC := (k10_lose _ _ v1 (xs (m_w (v3 + 1))) h)) (hM := lm_L_68) (hfr := (Nat.le_trans (by decide) hFn)) (hstk := rfl) (hcat := Nat.le_of_ble_eq_true rfl) (hd := (m_dec eL_law 352 rfl)) (k1 := fun r128 h127 => ?_)
                              refine ms_aload_n (pc := 621) S 2 rfl rfl (m_dec eL_law 353 rfl) ?_
                              refine ms_aload_n (pc := 622) S 0 rfl rfl (m_dec eL_law 354 rfl) ?_
                              refine ms_iload_n (pc := 623) S 3 rfl rfl (m_dec eL_law 355 rfl) ?_
                              refine ms_iconst (pc := 624) S (m_dec eL_law 356 rfl) ?_
                              refine ms_iadd (pc := 625) S (m_dec eL_law 357 rfl) ?_
                              refine ms_sld (pc := 626) S hX g1 g125 (m_dec eL_law 358 rfl) ?_
                              refine ms_grd fun g129 => ?_
                              refine ms_callVz (pc := 627) S hF (vals := [m_i (xs (m_w (v3 + 1)))]) (st := [m_i (m_b2i r128)]) (hc := vw_11) (hci := by decide) (hcy := rfl) (ht := g129) (hC := (k11_lose _ _ v2 (xs (m_w (v3 + 1))) h127)) (hM := lm_L_71) (hfr := (Nat.le_trans (by decide) hFn)) (hstk := rfl) (hcat := Nat.le_of_ble_eq_true rfl) (hd := (m_dec eL_law 359 rfl)) (k1 := fun r131 h130 => ?_)
                              refine ms_icmp_eq (pc := 630) S (m_dec eL_law 360 rfl) rfl (fun q132 => ?_) (fun q132 => ?_)
                              · refine ms_iinc (pc := 1512) S (L' := [(0, m_r v0), (1, m_r v1), (2, m_r v2), (3, m_i (v3 + 6))]) 3 rfl [1, 2, 3, 0] rfl (m_lt hN rfl) (m_dec eL_law 1066 rfl) ?_
                                refine ms_goto (pc := 1515) S (m_dec eL_law 1067 rfl) rfl ?_
                                exact ih (v3 + 6) h130
                              · refine ms_iconst (pc := 633) S (m_dec eL_law 361 rfl) ?_
                                exact ms_ret (pc := 634) E (m_dec eL_law 362 rfl) rfl
                            · refine ms_ite (fun q133 => ?_) (fun q133 => ?_)
                              · refine ms_swIn (pc := 33) S (m_dec eL_law 21 rfl) 13 q133 (by decide) (by decide) rfl rfl ?_
                                refine ms_aload_n (pc := 635) S 1 rfl rfl (m_dec eL_law 363 rfl) ?_
                                refine ms_aload_n (pc := 636) S 0 rfl rfl (m_dec eL_law 364 rfl) ?_
                                refine ms_iload_n (pc := 637) S 3 rfl rfl (m_dec eL_law 365 rfl) ?_
                                refine ms_iconst (pc := 638) S (m_dec eL_law 366 rfl) ?_
                                refine ms_iadd (pc := 639) S (m_dec eL_law 367 rfl) ?_
                                refine ms_grd fun g134 => ?_
                                refine ms_sld (pc := 640) S hX g1 g134 (m_dec eL_law 368 rfl) ?_
                                refine ms_aload_n (pc := 641) S 0 rfl rfl (m_dec eL_law 369 rfl) ?_
                                refine ms_iload_n (pc := 642) S 3 rfl rfl (m_dec eL_law 370 rfl) ?_
                                refine ms_iconst (pc := 643) S (m_dec eL_law 371 rfl) ?_
                                refine ms_iadd (pc := 644) S (m_dec eL_law 372 rfl) ?_
                                refine ms_grd fun g135 => ?_
                                refine ms_sld (pc := 645) S hX g1 g135 (m_dec eL_law 373 rfl) ?_
                                refine ms_grd fun g136 => ?_
                                refine ms_callVz (pc := 646) S hF (vals := [m_i (xs (m_w (v3 + 1))), m_i (xs (m_w (v3 + 2)))]) (st := []) (hc := vw_10) (hci := by decide) (hcy := rfl) (ht := g136) (hC := (k10_hang _ _ v1 (xs (m_w (v3 + 1))) (xs (m_w (v3 + 2))) h)) (hM := lm_L_72) (hfr := (Nat.le_trans (by decide) hFn)) (hstk := rfl) (hcat := Nat.le_of_ble_eq_true rfl) (hd := (m_dec eL_law 374 rfl)) (k1 := fun r138 h137 => ?_)
                                refine ms_aload_n (pc := 649) S 2 rfl rfl (m_dec eL_law 375 rfl) ?_
                                refine ms_aload_n (pc := 650) S 0 rfl rfl (m_dec eL_law 376 rfl) ?_
                                refine ms_iload_n (pc := 651) S 3 rfl rfl (m_dec eL_law 377 rfl) ?_
                                refine ms_iconst (pc := 652) S (m_dec eL_law 378 rfl) ?_
                                refine ms_iadd (pc := 653) S (m_dec eL_law 379 rfl) ?_
                                refine ms_sld (pc := 654) S hX g1 g134 (m_dec eL_law 380 rfl) ?_
                                refine ms_aload_n (pc := 655) S 0 rfl rfl (m_dec eL_law 381 rfl) ?_
                                refine ms_iload_n (pc := 656) S 3 rfl rfl (m_dec eL_law 382 rfl) ?_
                                refine ms_iconst (pc := 657) S (m_dec eL_law 383 rfl) ?_
                                refine ms_iadd (pc := 658) S (m_dec eL_law 384 rfl) ?_
                                refine ms_sld (pc := 659) S hX g1 g135 (m_dec eL_law 385 rfl) ?_
                                refine ms_grd fun g139 => ?_
                                refine ms_callVz (pc := 660) S hF (vals := [m_i (xs (m_w (v3 + 1))), m_i (xs (m_w (v3 + 2)))]) (st := [m_i (m_b2i r138)]) (hc := vw_11) (hci := by decide) (hcy := rfl) (ht := g139) (hC := (k11_hang _ _ v2 (xs (m_w (v3 + 1))) (xs (m_w (v3 + 2))) h137)) (hM := lm_L_76) (hfr := (Nat.le_trans (by decide) hFn)) (hstk := rfl) (hcat := Nat.le_of_ble_eq_true rfl) (hd := (m_dec eL_law 386 rfl)) (k1 := fun r141 h140 => ?_)
                                refine ms_icmp_eq (pc := 663) S (m_dec eL_law 387 rfl) rfl (fun q142 => ?_) (fun q142 => ?_)
                                · refine ms_iinc (pc := 1512) S (L' := [(0, m_r v0), (1, m_r v1), (2, m_r v2), (3, m_i (v3 + 6))]) 3 rfl [1, 2, 3, 0] rfl (m_lt hN rfl) (m_dec eL_law 1066 rfl) ?_
                                  refine ms_goto (pc := 1515) S (m_dec eL_law 1067 rfl) rfl ?_
                                  exact ih (v3 + 6) h140
                                · refine ms_iconst (pc := 666) S (m_dec eL_law 388 rfl) ?_
                                  exact ms_ret (pc := 667) E (m_dec eL_law 389 rfl) rfl
                              · refine ms_ite (fun q143 => ?_) (fun q143 => ?_)
                                · refine ms_swIn (pc := 33) S (m_dec eL_law 21 rfl) 14 q143 (by decide) (by decide) rfl rfl ?_
                                  refine ms_aload_n (pc := 668) S 1 rfl rfl (m_dec eL_law 390 rfl) ?_
                                  refine ms_aload_n (pc := 669) S 0 rfl rfl (m_dec eL_law 391 rfl) ?_
                                  refine ms_iload_n (pc := 670) S 3 rfl rfl (m_dec eL_law 392 rfl) ?_
                                  refine ms_iconst (pc := 671) S (m_dec eL_law 393 rfl) ?_
                                  refine ms_iadd (pc := 672) S (m_dec eL_law 394 rfl) ?_
                                  refine ms_grd fun g144 => ?_
                                  refine ms_sld (pc := 673) S hX g1 g144 (m_dec eL_law 395 rfl) ?_
                                  refine ms_grd fun g145 => ?_
                                  refine ms_callVi (pc := 674) S hF (vals := [m_i (xs (m_w (v3 + 1)))]) (st := []) (hc := vw_10) (hci := by decide) (hcy := rfl) (ht := g145) (hC := (k10_nail _ _ v1 (xs (m_w (v3 + 1))) h)) (hM := lm_L_77) (hfr := (Nat.le_trans (by decide) hFn)) (hstk := rfl) (hcat := Nat.le_of_ble_eq_true rfl) (hd := (m_dec eL_law 396 rfl)) (k1 := fun r147 h146 => ?_)
                                  refine ms_aload_n (pc := 677) S 2 rfl rfl (m_dec eL_law 397 rfl) ?_
                                  refine ms_aload_n (pc := 678) S 0 rfl rfl (m_dec eL_law 398 rfl) ?_
                                  refine ms_iload_n (pc := 679) S 3 rfl rfl (m_dec eL_law 399 rfl) ?_
                                  refine ms_iconst (pc := 680) S (m_dec eL_law 400 rfl) ?_
                                  refine ms_iadd (pc := 681) S (m_dec eL_law 401 rfl) ?_
                                  refine ms_sld (pc := 682) S hX g1 g144 (m_dec eL_law 402 rfl) ?_
                                  refine ms_grd fun g148 => ?_
                                  refine ms_callVi (pc := 683) S hF (vals := [m_i (xs (m_w (v3 + 1)))]) (st := [m_i r147]) (hc := vw_11) (hci := by decide) (hcy := rfl) (ht := g148) (hC := (k11_nail _ _ v2 (xs (m_w (v3 + 1))) h146)) (hM := lm_L_80) (hfr := (Nat.le_trans (by decide) hFn)) (hstk := rfl) (hcat := Nat.le_of_ble_eq_true rfl) (hd := (m_dec eL_law 403 rfl)) (k1 := fun r150 h149 => ?_)
                                  refine ms_icmp_eq (pc := 686) S (m_dec eL_law 404 rfl) rfl (fun q151 => ?_) (fun q151 => ?_)
                                  · refine ms_iinc (pc := 1512) S (L' := [(0, m_r v0), (1, m_r v1), (2, m_r v2), (3, m_i (v3 + 6))]) 3 rfl [1, 2, 3, 0] rfl (m_lt hN rfl) (m_dec eL_law 1066 rfl) ?_
                                    refine ms_goto (pc := 1515) S (m_dec eL_law 1067 rfl) rfl ?_
                                    exact ih (v3 + 6) h149
                                  · refine ms_iconst (pc := 689) S (m_dec eL_law 405 rfl) ?_
                                    exact ms_ret (pc := 690) E (m_dec eL_law 406 rfl) rfl
                                · refine ms_ite (fun q152 => ?_) (fun q152 => ?_)
                                  · refine ms_swIn (pc := 33) S (m_dec eL_law 21 rfl) 15 q152 (by decide) (by decide) rfl rfl ?_
                                    refine ms_aload_n (pc := 691) S 1 rfl rfl (m_dec eL_law 407 rfl) ?_
                                    refine ms_aload_n (pc := 692) S 0 rfl rfl (m_dec eL_law 408 rfl) ?_
                                    refine ms_iload_n (pc := 693) S 3 rfl rfl (m_dec eL_law 409 rfl) ?_
                                    refine ms_iconst (pc := 694) S (m_dec eL_law 410 rfl) ?_
                                    refine ms_iadd (pc := 695) S (m_dec eL_law 411 rfl) ?_
                                    refine ms_grd fun g153 => ?_
                                    refine ms_sld (pc := 696) S hX g1 g153 (m_dec eL_law 412 rfl) ?_
                                    refine ms_aload_n (pc := 697) S 0 rfl rfl (m_dec eL_law 413 rfl) ?_
                                    refine ms_iload_n (pc := 698) S 3 rfl rfl (m_dec eL_law 414 rfl) ?_
                                    refine ms_iconst (pc := 699) S (m_dec eL_law 415 rfl) ?_
                                    refine ms_iadd (pc := 700) S (m_dec eL_law 416 rfl) ?_
                                    refine ms_grd fun g154 => ?_
                                    refine ms_sld (pc := 701) S hX g1 g154 (m_dec eL_law 417 rfl) ?_
                                    refine ms_grd fun g155 => ?_
                                    refine ms_callVz (pc := 702) S hF (vals := [m_i (xs (m_w (v3 + 1))), m_i (xs (m_w (v3 + 2)))]) (st := []) (hc := vw_10) (hci := by decide) (hcy := rfl) (ht := g155) (hC := (k10_read _ _ v1 (xs (m_w (v3 + 1))) (xs (m_w (v3 + 2))) h)) (hM := lm_L_81) (hfr := (Nat.le_trans (by decide) hFn)) (hstk := rfl) (hcat := Nat.le_of_ble_eq_true rfl) (hd := (m_dec eL_law 418 rfl)) (k1 := fun r157 h156 => ?_)
                                    refine ms_aload_n (pc := 705) S 2 rfl rfl (m_dec eL_law 419 rfl) ?_
                                    refine ms_aload_n (pc := 706) S 0 rfl rfl (m_dec eL_law 420 rfl) ?_
                                    refine ms_iload_n (pc := 707) S 3 rfl rfl (m_dec eL_law 421 rfl) ?_
                                    refine ms_iconst (pc := 708) S (m_dec eL_law 422 rfl) ?_
                                    refine ms_iadd (pc := 709) S (m_dec eL_law 423 rfl) ?_
                                    refine ms_sld (pc := 710) S hX g1 g153 (m_dec eL_law 424 rfl) ?_
                                    refine ms_aload_n (pc := 711) S 0 rfl rfl (m_dec eL_law 425 rfl) ?_
                                    refine ms_iload_n (pc := 712) S 3 rfl rfl (m_dec eL_law 426 rfl) ?_
                                    refine ms_iconst (pc := 713) S (m_dec eL_law 427 rfl) ?_
                                    refine ms_iadd (pc := 714) S (m_dec eL_law 428 rfl) ?_
                                    refine ms_sld (pc := 715) S hX g1 g154 (m_dec eL_law 429 rfl) ?_
                                    refine ms_grd fun g158 => ?_
                                    refine ms_callVz (pc := 716) S hF (vals := [m_i (xs (m_w (v3 + 1))), m_i (xs (m_w (v3 + 2)))]) (st := [m_i (m_b2i r157)]) (hc := vw_11) (hci := by decide) (hcy := rfl) (ht := g158) (hC := (k11_read _ _ v2 (xs (m_w (v3 + 1))) (xs (m_w (v3 + 2))) h156)) (hM := lm_L_84) (hfr := (Nat.le_trans (by decide) hFn)) (hstk := rfl) (hcat := Nat.le_of_ble_eq_true rfl) (hd := (m_dec eL_law 430 rfl)) (k1 := fun r160 h159 => ?_)
                                    refine ms_icmp_eq (pc := 719) S (m_dec eL_law 431 rfl) rfl (fun q161 => ?_) (fun q161 => ?_)
                                    · refine ms_iinc (pc := 1512) S (L' := [(0, m_r v0), (1, m_r v1), (2, m_r v2), (3, m_i (v3 + 6))]) 3 rfl [1, 2, 3, 0] rfl (m_lt hN rfl) (m_dec eL_law 1066 rfl) ?_
                                      refine ms_goto (pc := 1515) S (m_dec eL_law 1067 rfl) rfl ?_
                                      exact ih (v3 + 6) h159
                                    · refine ms_iconst (pc := 722) S (m_dec eL_law 432 rfl) ?_
                                      exact ms_ret (pc := 723) E (m_dec eL_law 433 rfl) rfl
                                  · refine ms_ite (fun q162 => ?_) (fun q162 => ?_)
                                    · refine ms_swIn (pc := 33) S (m_dec eL_law 21 rfl) 16 q162 (by decide) (by decide) rfl rfl ?_
                                      refine ms_aload_n (pc := 724) S 1 rfl rfl (m_dec eL_law 434 rfl) ?_
                                      refine ms_aload_n (pc := 725) S 0 rfl rfl (m_dec eL_law 435 rfl) ?_
                                      refine ms_iload_n (pc := 726) S 3 rfl rfl (m_dec eL_law 436 rfl) ?_
                                      refine ms_iconst (pc := 727) S (m_dec eL_law 437 rfl) ?_
                                      refine ms_iadd (pc := 728) S (m_dec eL_law 438 rfl) ?_
                                      refine ms_grd fun g163 => ?_
                                      refine ms_sld (pc := 729) S hX g1 g163 (m_dec eL_law 439 rfl) ?_
                                      refine ms_aload_n (pc := 730) S 0 rfl rfl (m_dec eL_law 440 rfl) ?_
                                      refine ms_iload_n (pc := 731) S 3 rfl rfl (m_dec eL_law 441 rfl) ?_
                                      refine ms_iconst (pc := 732) S (m_dec eL_law 442 rfl) ?_
                                      refine ms_iadd (pc := 733) S (m_dec eL_law 443 rfl) ?_
                                      refine ms_grd fun g164 => ?_
                                      refine ms_sld (pc := 734) S hX g1 g164 (m_dec eL_law 444 rfl) ?_
                                      refine ms_grd fun g165 => ?_
                                      refine ms_callVi (pc := 735) S hF (vals := [m_i (xs (m_w (v3 + 1))), m_i (xs (m_w (v3 + 2)))]) (st := []) (hc := vw_10) (hci := by decide) (hcy := rfl) (ht := g165) (hC := (k10_marked _ _ v1 (xs (m_w (v3 + 1))) (xs (m_w (v3 + 2))) h)) (hM := lm_L_85) (hfr := (Nat.le_trans (by decide) hFn)) (hstk := rfl) (hcat := Nat.le_of_ble_eq_true rfl) (hd := (m_dec eL_law 445 rfl)) (k1 := fun r167 h166 => ?_)
                                      refine ms_aload_n (pc := 738) S 2 rfl rfl (m_dec eL_law 446 rfl) ?_
                                      refine ms_aload_n (pc := 739) S 0 rfl rfl (m_dec eL_law 447 rfl) ?_
                                      refine ms_iload_n (pc := 740) S 3 rfl rfl (m_dec eL_law 448 rfl) ?_
                                      refine ms_iconst (pc := 741) S (m_dec eL_law 449 rfl) ?_
                                      refine ms_iadd (pc := 742) S (m_dec eL_law 450 rfl) ?_
                                      refine ms_sld (pc := 743) S hX g1 g163 (m_dec eL_law 451 rfl) ?_
                                      refine ms_aload_n (pc := 744) S 0 rfl rfl (m_dec eL_law 452 rfl) ?_
                                      refine ms_iload_n (pc := 745) S 3 rfl rfl (m_dec eL_law 453 rfl) ?_
                                      refine ms_iconst (pc := 746) S (m_dec eL_law 454 rfl) ?_
                                      refine ms_iadd (pc := 747) S (m_dec eL_law 455 rfl) ?_
                                      refine ms_sld (pc := 748) S hX g1 g164 (m_dec eL_law 456 rfl) ?_
                                      refine ms_grd fun g168 => ?_
                                      refine ms_callVi (pc := 749) S hF (vals := [m_i (xs (m_w (v3 + 1))), m_i (xs (m_w (v3 + 2)))]) (st := [m_i r167]) (hc := vw_11) (hci := by decide) (hcy := rfl) (ht := g168) (hC := (k11_marked _ _ v2 (xs (m_w (v3 + 1))) (xs (m_w (v3 + 2))) h166)) (hM := lm_L_88) (hfr := (Nat.le_trans (by decide) hFn)) (hstk := rfl) (hcat := Nat.le_of_ble_eq_true rfl) (hd := (m_dec eL_law 457 rfl)) (k1 := fun r170 h169 => ?_)
                                      refine ms_icmp_eq (pc := 752) S (m_dec eL_law 458 rfl) rfl (fun q171 => ?_) (fun q171 => ?_)
                                      · refine ms_iinc (pc := 1512) S (L' := [(0, m_r v0), (1, m_r v1), (2, m_r v2), (3, m_i (v3 + 6))]) 3 rfl [1, 2, 3, 0] rfl (m_lt hN rfl) (m_dec eL_law 1066 rfl) ?_
                                        refine ms_goto (pc := 1515) S (m_dec eL_law 1067 rfl) rfl ?_
                                        exact ih (v3 + 6) h169
                                      · refine ms_iconst (pc := 755) S (m_dec eL_law 459 rfl) ?_
                                        exact ms_ret (pc := 756) E (m_dec eL_law 460 rfl) rfl
                                    · refine ms_ite (fun q172 => ?_) (fun q172 => ?_)
                                      · refine ms_swIn (pc := 33) S (m_dec eL_law 21 rfl) 17 q172 (by decide) (by decide) rfl rfl ?_
                                        refine ms_aload_n (pc := 757) S 1 rfl rfl (m_dec eL_law 461 rfl) ?_
                                        refine ms_aload_n (pc := 758) S 0 rfl rfl (m_dec eL_law 462 rfl) ?_
                                        refine ms_iload_n (pc := 759) S 3 rfl rfl (m_dec eL_law 463 rfl) ?_
                                        refine ms_iconst (pc := 760) S (m_dec eL_law 464 rfl) ?_
                                        refine ms_iadd (pc := 761) S (m_dec eL_law 465 rfl) ?_
                                        refine ms_grd fun g173 => ?_
                                        refine ms_sld (pc := 762) S hX g1 g173 (m_dec eL_law 466 rfl) ?_
                                        refine ms_grd fun g174 => ?_
                                        refine ms_callVi (pc := 763) S hF (vals := [m_i (xs (m_w (v3 + 1)))]) (st := []) (hc := vw_10) (hci := by decide) (hcy := rfl) (ht := g174) (hC := (k10_go _ _ v1 (xs (m_w (v3 + 1))) h)) (hM := lm_L_89) (hfr := (Nat.le_trans (by decide) hFn)) (hstk := rfl) (hcat := Nat.le_of_ble_eq_true rfl) (hd := (m_dec eL_law 467 rfl)) (k1 := fun r176 h175 => ?_)
                                        refine ms_aload_n (pc := 766) S 2 rfl rfl (m_dec eL_law 468 rfl) ?_
                                        refine ms_aload_n (pc := 767) S 0 rfl rfl (m_dec eL_law 469 rfl) ?_
                                        refine ms_iload_n (pc := 768) S 3 rfl rfl (m_dec eL_law 470 rfl) ?_
                                        refine ms_iconst (pc := 769) S (m_dec eL_law 471 rfl) ?_
                                        refine ms_iadd (pc := 770) S (m_dec eL_law 472 rfl) ?_
                                        refine ms_sld (pc := 771) S hX g1 g173 (m_dec eL_law 473 rfl) ?_
                                        refine ms_grd fun g177 => ?_
                                        refine ms_callVi (pc := 772) S hF (vals := [m_i (xs (m_w (v3 + 1)))]) (st := [m_i r176]) (hc := vw_11) (hci := by decide) (hcy := rfl) (ht := g177) (hC := (k11_go _ _ v2 (xs (m_w (v3 + 1))) h175)) (hM := lm_L_92) (hfr := (Nat.le_trans (by decide) hFn)) (hstk := rfl) (hcat := Nat.le_of_ble_eq_true rfl) (hd := (m_dec eL_law 474 rfl)) (k1 := fun r179 h178 => ?_)
                                        refine ms_icmp_eq (pc := 775) S (m_dec eL_law 475 rfl) rfl (fun q180 => ?_) (fun q180 => ?_)
                                        · refine ms_iinc (pc := 1512) S (L' := [(0, m_r v0), (1, m_r v1), (2, m_r v2), (3, m_i (v3 + 6))]) 3 rfl [1, 2, 3, 0] rfl (m_lt hN rfl) (m_dec eL_law 1066 rfl) ?_
                                          refine ms_goto (pc := 1515) S (m_dec eL_law 1067 rfl) rfl ?_
                                          exact ih (v3 + 6) h178
                                        · refine ms_iconst (pc := 778) S (m_dec eL_law 476 rfl) ?_
                                          exact ms_ret (pc := 779) E (m_dec eL_law 477 rfl) rfl
                                      · refine ms_ite (fun q181 => ?_) (fun q181 => ?_)
                                        · refine ms_swIn (pc := 33) S (m_dec eL_law 21 rfl) 18 q181 (by decide) (by decide) rfl rfl ?_
                                          refine ms_aload_n (pc := 780) S 1 rfl rfl (m_dec eL_law 478 rfl) ?_
                                          refine ms_aload_n (pc := 781) S 0 rfl rfl (m_dec eL_law 479 rfl) ?_
                                          refine ms_iload_n (pc := 782) S 3 rfl rfl (m_dec eL_law 480 rfl) ?_
                                          refine ms_iconst (pc := 783) S (m_dec eL_law 481 rfl) ?_
                                          refine ms_iadd (pc := 784) S (m_dec eL_law 482 rfl) ?_
                                          refine ms_grd fun g182 => ?_
                                          refine ms_sld (pc := 785) S hX g1 g182 (m_dec eL_law 483 rfl) ?_
                                          refine ms_aload_n (pc := 786) S 0 rfl rfl (m_dec eL_law 484 rfl) ?_
                                          refine ms_iload_n (pc := 787) S 3 rfl rfl (m_dec eL_law 485 rfl) ?_
                                          refine ms_iconst (pc := 788) S (m_dec eL_law 486 rfl) ?_
                                          refine ms_iadd (pc := 789) S (m_dec eL_law 487 rfl) ?_
                                          refine ms_grd fun g183 => ?_
                                          refine ms_sld (pc := 790) S hX g1 g183 (m_dec eL_law 488 rfl) ?_
                                          refine ms_grd fun g184 => ?_
                                          refine ms_callVi (pc := 791) S hF (vals := [m_i (xs (m_w (v3 + 1))), m_i (xs (m_w (v3 + 2)))]) (st := []) (hc := vw_10) (hci := by decide) (hcy := rfl) (ht := g184) (hC := (k10_sample _ _ v1 (xs (m_w (v3 + 1))) (xs (m_w (v3 + 2))) h)) (hM := lm_L_93) (hfr := (Nat.le_trans (by decide) hFn)) (hstk := rfl) (hcat := Nat.le_of_ble_eq_true rfl) (hd := (m_dec eL_law 489 rfl)) (k1 := fun r186 h185 => ?_)
                                          refine ms_aload_n (pc := 794) S 2 rfl rfl (m_dec eL_law 490 rfl) ?_
                                          refine ms_aload_n (pc := 795) S 0 rfl rfl (m_dec eL_law 491 rfl) ?_
                                          refine ms_iload_n (pc := 796) S 3 rfl rfl (m_dec eL_law 492 rfl) ?_
                                          refine ms_iconst (pc := 797) S (m_dec eL_law 493 rfl) ?_
                                          refine ms_iadd (pc := 798) S (m_dec eL_law 494 rfl) ?_
                                          refine ms_sld (pc := 799) S hX g1 g182 (m_dec eL_law 495 rfl) ?_
                                          refine ms_aload_n (pc := 800) S 0 rfl rfl (m_dec eL_law 496 rfl) ?_
                                          refine ms_iload_n (pc := 801) S 3 rfl rfl (m_dec eL_law 497 rfl) ?_
                                          refine ms_iconst (pc := 802) S (m_dec eL_law 498 rfl) ?_
                                          refine ms_iadd (pc := 803) S (m_dec eL_law 499 rfl) ?_
                                          refine ms_sld (pc := 804) S hX g1 g183 (m_dec eL_law 500 rfl) ?_
                                          refine ms_grd fun g187 => ?_
                                          refine ms_callVi (pc := 805) S hF (vals := [m_i (xs (m_w (v3 + 1))), m_i (xs (m_w (v3 + 2)))]) (st := [m_i r186]) (hc := vw_11) (hci := by decide) (hcy := rfl) (ht := g187) (hC := (k11_sample _ _ v2 (xs (m_w (v3 + 1))) (xs (m_w (v3 + 2))) h185)) (hM := lm_L_96) (hfr := (Nat.le_trans (by decide) hFn)) (hstk := rfl) (hcat := Nat.le_of_ble_eq_true rfl) (hd := (m_dec eL_law 501 rfl)) (k1 := fun r189 h188 => ?_)
                                          refine ms_icmp_eq (pc := 808) S (m_dec eL_law 502 rfl) rfl (fun q190 => ?_) (fun q190 => ?_)
                                          · refine ms_iinc (pc := 1512) S (L' := [(0, m_r v0), (1, m_r v1), (2, m_r v2), (3, m_i (v3 + 6))]) 3 rfl [1, 2, 3, 0] rfl (m_lt hN rfl) (m_dec eL_law 1066 rfl) ?_
                                            refine ms_goto (pc := 1515) S (m_dec eL_law 1067 rfl) rfl ?_
                                            exact ih (v3 + 6) h188
                                          · refine ms_iconst (pc := 811) S (m_dec eL_law 503 rfl) ?_
                                            exact ms_ret (pc := 812) E (m_dec eL_law 504 rfl) rfl
                                        · refine ms_ite (fun q191 => ?_) (fun q191 => ?_)
                                          · refine ms_swIn (pc := 33) S (m_dec eL_law 21 rfl) 19 q191 (by decide) (by decide) rfl rfl ?_
                                            refine ms_aload_n (pc := 813) S 1 rfl rfl (m_dec eL_law 505 rfl) ?_
                                            refine ms_aload_n (pc := 814) S 0 rfl rfl (m_dec eL_law 506 rfl) ?_
                                            refine ms_iload_n (pc := 815) S 3 rfl rfl (m_dec eL_law 507 rfl) ?_
                                            refine ms_iconst (pc := 816) S (m_dec eL_law 508 rfl) ?_
                                            refine ms_iadd (pc := 817) S (m_dec eL_law 509 rfl) ?_
                                            refine ms_grd fun g192 => ?_
                                            refine ms_sld (pc := 818) S hX g1 g192 (m_dec eL_law 510 rfl) ?_
                                            refine ms_aload_n (pc := 819) S 0 rfl rfl (m_dec eL_law 511 rfl) ?_
                                            refine ms_iload_n (pc := 820) S 3 rfl rfl (m_dec eL_law 512 rfl) ?_
                                            refine ms_iconst (pc := 821) S (m_dec eL_law 513 rfl) ?_
                                            refine ms_iadd (pc := 822) S (m_dec eL_law 514 rfl) ?_
                                            refine ms_grd fun g193 => ?_
                                            refine ms_sld (pc := 823) S hX g1 g193 (m_dec eL_law 515 rfl) ?_
                                            refine ms_grd fun g194 => ?_
                                            refine ms_callVi (pc := 824) S hF (vals := [m_i (xs (m_w (v3 + 1))), m_i (xs (m_w (v3 + 2)))]) (st := []) (hc := vw_10) (hci := by decide) (hcy := rfl) (ht := g194) (hC := (k10_told _ _ v1 (xs (m_w (v3 + 1))) (xs (m_w (v3 + 2))) h)) (hM := lm_L_97) (hfr := (Nat.le_trans (by decide) hFn)) (hstk := rfl) (hcat := Nat.le_of_ble_eq_true rfl) (hd := (m_dec eL_law 516 rfl)) (k1 := fun r196 h195 => ?_)
                                            refine ms_aload_n (pc := 827) S 2 rfl rfl (m_dec eL_law 517 rfl) ?_
                                            refine ms_aload_n (pc := 828) S 0 rfl rfl (m_dec eL_law 518 rfl) ?_
                                            refine ms_iload_n (pc := 829) S 3 rfl rfl (m_dec eL_law 519 rfl) ?_
                                            refine ms_iconst (pc := 830) S (m_dec eL_law 520 rfl) ?_
                                            refine ms_iadd (pc := 831) S (m_dec eL_law 521 rfl) ?_
                                            refine ms_sld (pc := 832) S hX g1 g192 (m_dec eL_law 522 rfl) ?_
                                            refine ms_aload_n (pc := 833) S 0 rfl rfl (m_dec eL_law 523 rfl) ?_
                                            refine ms_iload_n (pc := 834) S 3 rfl rfl (m_dec eL_law 524 rfl) ?_
                                            refine ms_iconst (pc := 835) S (m_dec eL_law 525 rfl) ?_
                                            refine ms_iadd (pc := 836) S (m_dec eL_law 526 rfl) ?_
                                            refine ms_sld (pc := 837) S hX g1 g193 (m_dec eL_law 527 rfl) ?_
                                            refine ms_grd fun g197 => ?_
                                            refine ms_callVi (pc := 838) S hF (vals := [m_i (xs (m_w (v3 + 1))), m_i (xs (m_w (v3 + 2)))]) (st := [m_i r196]) (hc := vw_11) (hci := by decide) (hcy := rfl) (ht := g197) (hC := (k11_told _ _ v2 (xs (m_w (v3 + 1))) (xs (m_w (v3 + 2))) h195)) (hM := lm_L_100) (hfr := (Nat.le_trans (by decide) hFn)) (hstk := rfl) (hcat := Nat.le_of_ble_eq_true rfl) (hd := (m_dec eL_law 528 rfl)) (k1 := fun r199 h198 => ?_)
                                            refine ms_icmp_eq (pc := 841) S (m_dec eL_law 529 rfl) rfl (fun q200 => ?_) (fun q200 => ?_)
                                            · refine ms_iinc (pc := 1512) S (L' := [(0, m_r v0), (1, m_r v1), (2, m_r v2), (3, m_i (v3 + 6))]) 3 rfl [1, 2, 3, 0] rfl (m_lt hN rfl) (m_dec eL_law 1066 rfl) ?_
                                              refine ms_goto (pc := 1515) S (m_dec eL_law 1067 rfl) rfl ?_
                                              exact ih (v3 + 6) h198
                                            · refine ms_iconst (pc := 844) S (m_dec eL_law 530 rfl) ?_
                                              exact ms_ret (pc := 845) E (m_dec eL_law 531 rfl) rfl
                                          · refine ms_ite (fun q201 => ?_) (fun q201 => ?_)
                                            · refine ms_swIn (pc := 33) S (m_dec eL_law 21 rfl) 20 q201 (by decide) (by decide) rfl rfl ?_
                                              refine ms_aload_n (pc := 846) S 1 rfl rfl (m_dec eL_law 532 rfl) ?_
                                              refine ms_aload_n (pc := 847) S 0 rfl rfl (m_dec eL_law 533 rfl) ?_
                                              refine ms_iload_n (pc := 848) S 3 rfl rfl (m_dec eL_law 534 rfl) ?_
                                              refine ms_iconst (pc := 849) S (m_dec eL_law 535 rfl) ?_
                                              refine ms_iadd (pc := 850) S (m_dec eL_law 536 rfl) ?_
                                              refine ms_grd fun g202 => ?_
                                              refine ms_sld (pc := 851) S hX g1 g202 (m_dec eL_law 537 rfl) ?_
                                              refine ms_aload_n (pc := 852) S 0 rfl rfl (m_dec eL_law 538 rfl) ?_
                                              refine ms_iload_n (pc := 853) S 3 rfl rfl (m_dec eL_law 539 rfl) ?_
                                              refine ms_iconst (pc := 854) S (m_dec eL_law 540 rfl) ?_
                                              refine ms_iadd (pc := 855) S (m_dec eL_law 541 rfl) ?_
                                              refine ms_grd fun g203 => ?_
                                              refine ms_sld (pc := 856) S hX g1 g203 (m_dec eL_law 542 rfl) ?_
                                              refine ms_aload_n (pc := 857) S 0 rfl rfl (m_dec eL_law 543 rfl) ?_
                                              refine ms_iload_n (pc := 858) S 3 rfl rfl (m_dec eL_law 544 rfl) ?_
                                              refine ms_iconst (pc := 859) S (m_dec eL_law 545 rfl) ?_
                                              refine ms_iadd (pc := 860) S (m_dec eL_law 546 rfl) ?_
                                              refine ms_grd fun g204 => ?_
                                              refine ms_sld (pc := 861) S hX g1 g204 (m_dec eL_law 547 rfl) ?_
                                              refine ms_aload_n (pc := 862) S 0 rfl rfl (m_dec eL_law 548 rfl) ?_
                                              refine ms_iload_n (pc := 863) S 3 rfl rfl (m_dec eL_law 549 rfl) ?_
                                              refine ms_iconst (pc := 864) S (m_dec eL_law 550 rfl) ?_
                                              refine ms_iadd (pc := 865) S (m_dec eL_law 551 rfl) ?_
                                              refine ms_grd fun g205 => ?_
                                              refine ms_sld (pc := 866) S hX g1 g205 (m_dec eL_law 552 rfl) ?_
                                              refine ms_aload_n (pc := 867) S 0 rfl rfl (m_dec eL_law 553 rfl) ?_
                                              refine ms_iload_n (pc := 868) S 3 rfl rfl (m_dec eL_law 554 rfl) ?_
                                              refine ms_iconst (pc := 869) S (m_dec eL_law 555 rfl) ?_
                                              refine ms_iadd (pc := 870) S (m_dec eL_law 556 rfl) ?_
                                              refine ms_grd fun g206 => ?_
                                              refine ms_sld (pc := 871) S hX g1 g206 (m_dec eL_law 557 rfl) ?_
                                              refine ms_grd fun g207 => ?_
                                              refine ms_callVi (pc := 872) S hF (vals := [m_i (xs (m_w (v3 + 1))), m_i (xs (m_w (v3 + 2))), m_i (xs (m_w (v3 + 3))), m_i (xs (m_w (v3 + 4))), m_i (xs (m_w (v3 + 5)))]) (st := []) (hc := vw_10) (hci := by decide) (hcy := rfl) (ht := g207) (hC := (k10_feed _ _ v1 (xs (m_w (v3 + 1))) (xs (m_w (v3 + 2))) (xs (m_w (v3 + 3))) (xs (m_w (v3 + 4))) (xs (m_w (v3 + 5))) h)) (hM := lm_L_101) (hfr := (Nat.le_trans (by decide) hFn)) (hstk := rfl) (hcat := Nat.le_of_ble_eq_true rfl) (hd := (m_dec eL_law 558 rfl)) (k1 := fun r209 h208 => ?_)
                                              refine ms_aload_n (pc := 875) S 2 rfl rfl (m_dec eL_law 559 rfl) ?_
                                              refine ms_aload_n (pc := 876) S 0 rfl rfl (m_dec eL_law 560 rfl) ?_
                                              refine ms_iload_n (pc := 877) S 3 rfl rfl (m_dec eL_law 561 rfl) ?_
                                              refine ms_iconst (pc := 878) S (m_dec eL_law 562 rfl) ?_
                                              refine ms_iadd (pc := 879) S (m_dec eL_law 563 rfl) ?_
                                              refine ms_sld (pc := 880) S hX g1 g202 (m_dec eL_law 564 rfl) ?_
                                              refine ms_aload_n (pc := 881) S 0 rfl rfl (m_dec eL_law 565 rfl) ?_
                                              refine ms_iload_n (pc := 882) S 3 rfl rfl (m_dec eL_law 566 rfl) ?_
                                              refine ms_iconst (pc := 883) S (m_dec eL_law 567 rfl) ?_
                                              refine ms_iadd (pc := 884) S (m_dec eL_law 568 rfl) ?_
                                              refine ms_sld (pc := 885) S hX g1 g203 (m_dec eL_law 569 rfl) ?_
                                              refine ms_aload_n (pc := 886) S 0 rfl rfl (m_dec eL_law 570 rfl) ?_
                                              refine ms_iload_n (pc := 887) S 3 rfl rfl (m_dec eL_law 571 rfl) ?_
                                              refine ms_iconst (pc := 888) S (m_dec eL_law 572 rfl) ?_
                                              refine ms_iadd (pc := 889) S (m_dec eL_law 573 rfl) ?_
                                              refine ms_sld (pc := 890) S hX g1 g204 (m_dec eL_law 574 rfl) ?_
                                              refine ms_aload_n (pc := 891) S 0 rfl rfl (m_dec eL_law 575 rfl) ?_
                                              refine ms_iload_n (pc := 892) S 3 rfl rfl (m_dec eL_law 576 rfl) ?_
                                              refine ms_iconst (pc := 893) S (m_dec eL_law 577 rfl) ?_
                                              refine ms_iadd (pc := 894) S (m_dec eL_law 578 rfl) ?_
                                              refine ms_sld (pc := 895) S hX g1 g205 (m_dec eL_law 579 rfl) ?_
                                              refine ms_aload_n (pc := 896) S 0 rfl rfl (m_dec eL_law 580 rfl) ?_
                                              refine ms_iload_n (pc := 897) S 3 rfl rfl (m_dec eL_law 581 rfl) ?_
                                              refine ms_iconst (pc := 898) S (m_dec eL_law 582 rfl) ?_
                                              refine ms_iadd (pc := 899) S (m_dec eL_law 583 rfl) ?_
                                              refine ms_sld (pc := 900) S hX g1 g206 (m_dec eL_law 584 rfl) ?_
                                              refine ms_grd fun g210 => ?_
                                              refine ms_callVi (pc := 901) S hF (vals := [m_i (xs (m_w (v3 + 1))), m_i (xs (m_w (v3 + 2))), m_i (xs (m_w (v3 + 3))), m_i (xs (m_w (v3 + 4))), m_i (xs (m_w (v3 + 5)))]) (st := [m_i r209]) (hc := vw_11) (hci := by decide) (hcy := rfl) (ht := g210) (hC := (k11_feed _ _ v2 (xs (m_w (v3 + 1))) (xs (m_w (v3 + 2))) (xs (m_w (v3 + 3))) (xs (m_w (v3 + 4))) (xs (m_w (v3 + 5))) h208)) (hM := lm_L_104) (hfr := (Nat.le_trans (by decide) hFn)) (hstk := rfl) (hcat := Nat.le_of_ble_eq_true rfl) (hd := (m_dec eL_law 585 rfl)) (k1 := fun r212 h211 => ?_)
                                              refine ms_icmp_eq (pc := 904) S (m_dec eL_law 586 rfl) rfl (fun q213 => ?_) (fun q213 => ?_)
                                              · refine ms_iinc (pc := 1512) S (L' := [(0, m_r v0), (1, m_r v1), (2, m_r v2), (3, m_i (v3 + 6))]) 3 rfl [1, 2, 3, 0] rfl (m_lt hN rfl) (m_dec eL_law 1066 rfl) ?_
                                                refine ms_goto (pc := 1515) S (m_dec eL_law 1067 rfl) rfl ?_
                                                exact ih (v3 + 6) h211
                                              · refine ms_iconst (pc := 907) S (m_dec eL_law 587 rfl) ?_
                                                exact ms_ret (pc := 908) E (m_dec eL_law 588 rfl) rfl
                                            · refine ms_ite (fun q214 => ?_) (fun q214 => ?_)
                                              · refine ms_swIn (pc := 33) S (m_dec eL_law 21 rfl) 21 q214 (by decide) (by decide) rfl rfl ?_
                                                refine ms_aload_n (pc := 909) S 1 rfl rfl (m_dec eL_law 589 rfl) ?_
                                                refine ms_aload_n (pc := 910) S 0 rfl rfl (m_dec eL_law 590 rfl) ?_
                                                refine ms_iload_n (pc := 911) S 3 rfl rfl (m_dec eL_law 591 rfl) ?_
                                                refine ms_iconst (pc := 912) S (m_dec eL_law 592 rfl) ?_
                                                refine ms_iadd (pc := 913) S (m_dec eL_law 593 rfl) ?_
                                                refine ms_grd fun g215 => ?_
                                                refine ms_sld (pc := 914) S hX g1 g215 (m_dec eL_law 594 rfl) ?_
                                                refine ms_grd fun g216 => ?_
                                                refine ms_callVz (pc := 915) S hF (vals := [m_i (xs (m_w (v3 + 1)))]) (st := []) (hc := vw_10) (hci := by decide) (hcy := rfl) (ht := g216) (hC := (k10_end _ _ v1 (xs (m_w (v3 + 1))) h)) (hM := lm_L_105) (hfr := (Nat.le_trans (by decide) hFn)) (hstk := rfl) (hcat := Nat.le_of_ble_eq_true rfl) (hd := (m_dec eL_law 595 rfl)) (k1 := fun r218 h217 => ?_)
                                                refine ms_aload_n (pc := 918) S 2 rfl rfl (m_dec eL_law 596 rfl) ?_
                                                refine ms_aload_n (pc := 919) S 0 rfl rfl (m_dec eL_law 597 rfl) ?_
                                                refine ms_iload_n (pc := 920) S 3 rfl rfl (m_dec eL_law 598 rfl) ?_
                                                refine ms_iconst (pc := 921) S (m_dec eL_law 599 rfl) ?_
                                                refine ms_iadd (pc := 922) S (m_dec eL_law 600 rfl) ?_
                                                refine ms_sld (pc := 923) S hX g1 g215 (m_dec eL_law 601 rfl) ?_
                                                refine ms_grd fun g219 => ?_
                                                refine ms_callVz (pc := 924) S hF (vals := [m_i (xs (m_w (v3 + 1)))]) (st := [m_i (m_b2i r218)]) (hc := vw_11) (hci := by decide) (hcy := rfl) (ht := g219) (hC := (k11_end _ _ v2 (xs (m_w (v3 + 1))) h217)) (hM := lm_L_108) (hfr := (Nat.le_trans (by decide) hFn)) (hstk := rfl) (hcat := Nat.le_of_ble_eq_true rfl) (hd := (m_dec eL_law 602 rfl)) (k1 := fun r221 h220 => ?_)
                                                refine ms_icmp_eq (pc := 927) S (m_dec eL_law 603 rfl) rfl (fun q222 => ?_) (fun q222 => ?_)
                                                · refine ms_iinc (pc := 1512) S (L' := [(0, m_r v0), (1, m_r v1), (2, m_r v2), (3, m_i (v3 + 6))]) 3 rfl [1, 2, 3, 0] rfl (m_lt hN rfl) (m_dec eL_law 1066 rfl) ?_
                                                  refine ms_goto (pc := 1515) S (m_dec eL_law 1067 rfl) rfl ?_
                                                  exact ih (v3 + 6) h220
                                                · refine ms_iconst (pc := 930) S (m_dec eL_law 604 rfl) ?_
                                                  exact ms_ret (pc := 931) E (m_dec eL_law 605 rfl) rfl
                                              · refine ms_ite (fun q223 => ?_) (fun q223 => ?_)
                                                · refine ms_swIn (pc := 33) S (m_dec eL_law 21 rfl) 22 q223 (by decide) (by decide) rfl rfl ?_
                                                  refine ms_aload_n (pc := 932) S 1 rfl rfl (m_dec eL_law 606 rfl) ?_
                                                  refine ms_grd fun g224 => ?_
                                                  refine ms_callVi (pc := 933) S hF (vals := []) (st := []) (hc := vw_10) (hci := by decide) (hcy := rfl) (ht := g224) (hC := (k10_fault _ _ v1 h)) (hM := lm_L_109) (hfr := (Nat.le_trans (by decide) hFn)) (hstk := rfl) (hcat := Nat.le_of_ble_eq_true rfl) (hd := (m_dec eL_law 607 rfl)) (k1 := fun r226 h225 => ?_)
                                                  refine ms_aload_n (pc := 936) S 2 rfl rfl (m_dec eL_law 608 rfl) ?_
                                                  refine ms_grd fun g227 => ?_
                                                  refine ms_callVi (pc := 937) S hF (vals := []) (st := [m_i r226]) (hc := vw_11) (hci := by decide) (hcy := rfl) (ht := g227) (hC := (k11_fault _ _ v2 h225)) (hM := lm_L_112) (hfr := (Nat.le_trans (by decide) hFn)) (hstk := rfl) (hcat := Nat.le_of_ble_eq_true rfl) (hd := (m_dec eL_law 609 rfl)) (k1 := fun r229 h228 => ?_)
                                                  refine ms_icmp_eq (pc := 940) S (m_dec eL_law 610 rfl) rfl (fun q230 => ?_) (fun q230 => ?_)
                                                  · refine ms_iinc (pc := 1512) S (L' := [(0, m_r v0), (1, m_r v1), (2, m_r v2), (3, m_i (v3 + 6))]) 3 rfl [1, 2, 3, 0] rfl (m_lt hN rfl) (m_dec eL_law 1066 rfl) ?_
                                                    refine ms_goto (pc := 1515) S (m_dec eL_law 1067 rfl) rfl ?_
                                                    exact ih (v3 + 6) h228
                                                  · refine ms_iconst (pc := 943) S (m_dec eL_law 611 rfl) ?_
                                                    exact ms_ret (pc := 944) E (m_dec eL_law 612 rfl) rfl
                                                · refine ms_ite (fun q231 => ?_) (fun q231 => ?_)
                                                  · refine ms_swIn (pc := 33) S (m_dec eL_law 21 rfl) 23 q231 (by decide) (by decide) rfl rfl ?_
                                                    refine ms_aload_n (pc := 945) S 1 rfl rfl (m_dec eL_law 613 rfl) ?_
                                                    refine ms_grd fun g232 => ?_
                                                    refine ms_callVi (pc := 946) S hF (vals := []) (st := []) (hc := vw_10) (hci := by decide) (hcy := rfl) (ht := g232) (hC := (k10_score _ _ v1 h)) (hM := lm_L_113) (hfr := (Nat.le_trans (by decide) hFn)) (hstk := rfl) (hcat := Nat.le_of_ble_eq_true rfl) (hd := (m_dec eL_law 614 rfl)) (k1 := fun r234 h233 => ?_)
                                                    refine ms_aload_n (pc := 949) S 2 rfl rfl (m_dec eL_law 615 rfl) ?_
                                                    refine ms_grd fun g235 => ?_
                                                    refine ms_callVi (pc := 950) S hF (vals := []) (st := [m_i r234]) (hc := vw_11) (hci := by decide) (hcy := rfl) (ht := g235) (hC := (k11_score _ _ v2 h233)) (hM := lm_L_116) (hfr := (Nat.le_trans (by decide) hFn)) (hstk := rfl) (hcat := Nat.le_of_ble_eq_true rfl) (hd := (m_dec eL_law 616 rfl)) (k1 := fun r237 h236 => ?_)
                                                    refine ms_icmp_eq (pc := 953) S (m_dec eL_law 617 rfl) rfl (fun q238 => ?_) (fun q238 => ?_)
                                                    · refine ms_iinc (pc := 1512) S (L' := [(0, m_r v0), (1, m_r v1), (2, m_r v2), (3, m_i (v3 + 6))]) 3 rfl [1, 2, 3, 0] rfl (m_lt hN rfl) (m_dec eL_law 1066 rfl) ?_
                                                      refine ms_goto (pc := 1515) S (m_dec eL_law 1067 rfl) rfl ?_
                                                      exact ih (v3 + 6) h236
                                                    · refine ms_iconst (pc := 956) S (m_dec eL_law 618 rfl) ?_
                                                      exact ms_ret (pc := 957) E (m_dec eL_law 619 rfl) rfl
                                                  · refine ms_ite (fun q239 => ?_) (fun q239 => ?_)
                                                    · refine ms_swIn (pc := 33) S (m_dec eL_law 21 rfl) 24 q239 (by decide) (by decide) rfl rfl ?_
                                                      refine ms_aload_n (pc := 958) S 1 rfl rfl (m_dec eL_law 620 rfl) ?_
                                                      refine ms_aload_n (pc := 959) S 0 rfl rfl (m_dec eL_law 621 rfl) ?_
                                                      refine ms_iload_n (pc := 960) S 3 rfl rfl (m_dec eL_law 622 rfl) ?_
                                                      refine ms_iconst (pc := 961) S (m_dec eL_law 623 rfl) ?_
                                                      refine ms_iadd (pc := 962) S (m_dec eL_law 624 rfl) ?_
                                                      refine ms_grd fun g240 => ?_
                                                      refine ms_sld (pc := 963) S hX g1 g240 (m_dec eL_law 625 rfl) ?_
                                                      refine ms_aload_n (pc := 964) S 0 rfl rfl (m_dec eL_law 626 rfl) ?_
                                                      refine ms_iload_n (pc := 965) S 3 rfl rfl (m_dec eL_law 627 rfl) ?_
                                                      refine ms_iconst (pc := 966) S (m_dec eL_law 628 rfl) ?_
                                                      refine ms_iadd (pc := 967) S (m_dec eL_law 629 rfl) ?_
                                                      refine ms_grd fun g241 => ?_
                                                      refine ms_sld (pc := 968) S hX g1 g241 (m_dec eL_law 630 rfl) ?_
                                                      refine ms_grd fun g242 => ?_
                                                      refine ms_callVi (pc := 969) S hF (vals := [m_i (xs (m_w (v3 + 1))), m_i (xs (m_w (v3 + 2)))]) (st := []) (hc := vw_10) (hci := by decide) (hcy := rfl) (ht := g242) (hC := (k10_make _ _ v1 (xs (m_w (v3 + 1))) (xs (m_w (v3 + 2))) h)) (hM := lm_L_117) (hfr := (Nat.le_trans (by decide) hFn)) (hstk := rfl) (hcat := Nat.le_of_ble_eq_true rfl) (hd := (m_dec eL_law 631 rfl)) (k1 := fun r244 h243 => ?_)
                                                      refine ms_aload_n (pc := 972) S 2 rfl rfl (m_dec eL_law 632 rfl) ?_
                                                      refine ms_aload_n (pc := 973) S 0 rfl rfl (m_dec eL_law 633 rfl) ?_
                                                      refine ms_iload_n (pc := 974) S 3 rfl rfl (m_dec eL_law 634 rfl) ?_
                                                      refine ms_iconst (pc := 975) S (m_dec eL_law 635 rfl) ?_
                                                      refine ms_iadd (pc := 976) S (m_dec eL_law 636 rfl) ?_
                                                      refine ms_sld (pc := 977) S hX g1 g240 (m_dec eL_law 637 rfl) ?_
                                                      refine ms_aload_n (pc := 978) S 0 rfl rfl (m_dec eL_law 638 rfl) ?_
                                                      refine ms_iload_n (pc := 979) S 3 rfl rfl (m_dec eL_law 639 rfl) ?_
                                                      refine ms_iconst (pc := 980) S (m_dec eL_law 640 rfl) ?_
                                                      refine ms_iadd (pc := 981) S (m_dec eL_law 641 rfl) ?_
                                                      refine ms_sld (pc := 982) S hX g1 g241 (m_dec eL_law 642 rfl) ?_
                                                      refine ms_grd fun g245 => ?_
                                                      refine ms_callVi (pc := 983) S hF (vals := [m_i (xs (m_w (v3 + 1))), m_i (xs (m_w (v3 + 2)))]) (st := [m_i r244]) (hc := vw_11) (hci := by decide) (hcy := rfl) (ht := g245) (hC := (k11_make _ _ v2 (xs (m_w (v3 + 1))) (xs (m_w (v3 + 2))) h243)) (hM := lm_L_120) (hfr := (Nat.le_trans (by decide) hFn)) (hstk := rfl) (hcat := Nat.le_of_ble_eq_true rfl) (hd := (m_dec eL_law 643 rfl)) (k1 := fun r247 h246 => ?_)
                                                      refine ms_icmp_eq (pc := 986) S (m_dec eL_law 644 rfl) rfl (fun q248 => ?_) (fun q248 => ?_)
                                                      · refine ms_iinc (pc := 1512) S (L' := [(0, m_r v0), (1, m_r v1), (2, m_r v2), (3, m_i (v3 + 6))]) 3 rfl [1, 2, 3, 0] rfl (m_lt hN rfl) (m_dec eL_law 1066 rfl) ?_
                                                        refine ms_goto (pc := 1515) S (m_dec eL_law 1067 rfl) rfl ?_
                                                        exact ih (v3 + 6) h246
                                                      · refine ms_iconst (pc := 989) S (m_dec eL_law 645 rfl) ?_
                                                        exact ms_ret (pc := 990) E (m_dec eL_law 646 rfl) rfl
                                                    · refine ms_ite (fun q249 => ?_) (fun q249 => ?_)
                                                      · refine ms_swIn (pc := 33) S (m_dec eL_law 21 rfl) 25 q249 (by decide) (by decide) rfl rfl ?_
                                                        refine ms_aload_n (pc := 991) S 1 rfl rfl (m_dec eL_law 647 rfl) ?_
                                                        refine ms_aload_n (pc := 992) S 0 rfl rfl (m_dec eL_law 648 rfl) ?_
                                                        refine ms_iload_n (pc := 993) S 3 rfl rfl (m_dec eL_law 649 rfl) ?_
                                                        refine ms_iconst (pc := 994) S (m_dec eL_law 650 rfl) ?_
                                                        refine ms_iadd (pc := 995) S (m_dec eL_law 651 rfl) ?_
                                                        refine ms_grd fun g250 => ?_
                                                        refine ms_sld (pc := 996) S hX g1 g250 (m_dec eL_law 652 rfl) ?_
                                                        refine ms_aload_n (pc := 997) S 0 rfl rfl (m_dec eL_law 653 rfl) ?_
                                                        refine ms_iload_n (pc := 998) S 3 rfl rfl (m_dec eL_law 654 rfl) ?_
                                                        refine ms_iconst (pc := 999) S (m_dec eL_law 655 rfl) ?_
                                                        refine ms_iadd (pc := 1000) S (m_dec eL_law 656 rfl) ?_
                                                        refine ms_grd fun g251 => ?_
                                                        refine ms_sld (pc := 1001) S hX g1 g251 (m_dec eL_law 657 rfl) ?_
                                                        refine ms_grd fun g252 => ?_
                                                        refine ms_callVi (pc := 1002) S hF (vals := [m_i (xs (m_w (v3 + 1))), m_i (xs (m_w (v3 + 2)))]) (st := []) (hc := vw_10) (hci := by decide) (hcy := rfl) (ht := g252) (hC := (k10_fails _ _ v1 (xs (m_w (v3 + 1))) (xs (m_w (v3 + 2))) h)) (hM := lm_L_121) (hfr := (Nat.le_trans (by decide) hFn)) (hstk := rfl) (hcat := Nat.le_of_ble_eq_true rfl) (hd := (m_dec eL_law 658 rfl)) (k1 := fun r254 h253 => ?_)
                                                        refine ms_aload_n (pc := 1005) S 2 rfl rfl (m_dec eL_law 659 rfl) ?_
                                                        refine ms_aload_n (pc := 1006) S 0 rfl rfl (m_dec eL_law 660 rfl) ?_
                                                        refine ms_iload_n (pc := 1007) S 3 rfl rfl (m_dec eL_law 661 rfl) ?_
                                                        refine ms_iconst (pc := 1008) S (m_dec eL_law 662 rfl) ?_
                                                        refine ms_iadd (pc := 1009) S (m_dec eL_law 663 rfl) ?_
                                                        refine ms_sld (pc := 1010) S hX g1 g250 (m_dec eL_law 664 rfl) ?_
                                                        refine ms_aload_n (pc := 1011) S 0 rfl rfl (m_dec eL_law 665 rfl) ?_
                                                        refine ms_iload_n (pc := 1012) S 3 rfl rfl (m_dec eL_law 666 rfl) ?_
                                                        refine ms_iconst (pc := 1013) S (m_dec eL_law 667 rfl) ?_
                                                        refine ms_iadd (pc := 1014) S (m_dec eL_law 668 rfl) ?_
                                                        refine ms_sld (pc := 1015) S hX g1 g251 (m_dec eL_law 669 rfl) ?_
                                                        refine ms_grd fun g255 => ?_
                                                        refine ms_callVi (pc := 1016) S hF (vals := [m_i (xs (m_w (v3 + 1))), m_i (xs (m_w (v3 + 2)))]) (st := [m_i r254]) (hc := vw_11) (hci := by decide) (hcy := rfl) (ht := g255) (hC := (k11_fails_ _ _ v2 (xs (m_w (v3 + 1))) (xs (m_w (v3 + 2))) h253)) (hM := lm_L_124) (hfr := (Nat.le_trans (by decide) hFn)) (hstk := rfl) (hcat := Nat.le_of_ble_eq_true rfl) (hd := (m_dec eL_law 670 rfl)) (k1 := fun r257 h256 => ?_)
                                                        refine ms_icmp_eq (pc := 1019) S (m_dec eL_law 671 rfl) rfl (fun q258 => ?_) (fun q258 => ?_)
                                                        · refine ms_iinc (pc := 1512) S (L' := [(0, m_r v0), (1, m_r v1), (2, m_r v2), (3, m_i (v3 + 6))]) 3 rfl [1, 2, 3, 0] rfl (m_lt hN rfl) (m_dec eL_law 1066 rfl) ?_
                                                          refine ms_goto (pc := 1515) S (m_dec eL_law 1067 rfl) rfl ?_
                                                          exact ih (v3 + 6) h256
                                                        · refine ms_iconst (pc := 1022) S (m_dec eL_law 672 rfl) ?_
                                                          exact ms_ret (pc := 1023) E (m_dec eL_law 673 rfl) rfl
                                                      · refine ms_ite (fun q259 => ?_) (fun q259 => ?_)
                                                        · refine ms_swIn (pc := 33) S (m_dec eL_law 21 rfl) 26 q259 (by decide) (by decide) rfl rfl ?_
                                                          refine ms_aload_n (pc := 1024) S 1 rfl rfl (m_dec eL_law 674 rfl) ?_
                                                          refine ms_aload_n (pc := 1025) S 0 rfl rfl (m_dec eL_law 675 rfl) ?_
                                                          refine ms_iload_n (pc := 1026) S 3 rfl rfl (m_dec eL_law 676 rfl) ?_
                                                          refine ms_iconst (pc := 1027) S (m_dec eL_law 677 rfl) ?_
                                                          refine ms_iadd (pc := 1028) S (m_dec eL_law 678 rfl) ?_
                                                          refine ms_grd fun g260 => ?_
                                                          refine ms_sld (pc := 1029) S hX g1 g260 (m_dec eL_law 679 rfl) ?_
                                                          refine ms_grd fun g261 => ?_
                                                          refine ms_callVi (pc := 1030) S hF (vals := [m_i (xs (m_w (v3 + 1)))]) (st := []) (hc := vw_10) (hci := by decide) (hcy := rfl) (ht := g261) (hC := (k10_out _ _ v1 (xs (m_w (v3 + 1))) h)) (hM := lm_L_125) (hfr := (Nat.le_trans (by decide) hFn)) (hstk := rfl) (hcat := Nat.le_of_ble_eq_true rfl) (hd := (m_dec eL_law 680 rfl)) (k1 := fun r263 h262 => ?_)
                                                          refine ms_aload_n (pc := 1033) S 2 rfl rfl (m_dec eL_law 681 rfl) ?_
                                                          refine ms_aload_n (pc := 1034) S 0 rfl rfl (m_dec eL_law 682 rfl) ?_
                                                          refine ms_iload_n (pc := 1035) S 3 rfl rfl (m_dec eL_law 683 rfl) ?_
                                                          refine ms_iconst (pc := 1036) S (m_dec eL_law 684 rfl) ?_
                                                          refine ms_iadd (pc := 1037) S (m_dec eL_law 685 rfl) ?_
                                                          refine ms_sld (pc := 1038) S hX g1 g260 (m_dec eL_law 686 rfl) ?_
                                                          refine ms_grd fun g264 => ?_
                                                          refine ms_callVi (pc := 1039) S hF (vals := [m_i (xs (m_w (v3 + 1)))]) (st := [m_i r263]) (hc := vw_11) (hci := by decide) (hcy := rfl) (ht := g264) (hC := (k11_out _ _ v2 (xs (m_w (v3 + 1))) h262)) (hM := lm_L_128) (hfr := (Nat.le_trans (by decide) hFn)) (hstk := rfl) (hcat := Nat.le_of_ble_eq_true rfl) (hd := (m_dec eL_law 687 rfl)) (k1 := fun r266 h265 => ?_)
                                                          refine ms_icmp_eq (pc := 1042) S (m_dec eL_law 688 rfl) rfl (fun q267 => ?_) (fun q267 => ?_)
                                                          · refine ms_iinc (pc := 1512) S (L' := [(0, m_r v0), (1, m_r v1), (2, m_r v2), (3, m_i (v3 + 6))]) 3 rfl [1, 2, 3, 0] rfl (m_lt hN rfl) (m_dec eL_law 1066 rfl) ?_
                                                            refine ms_goto (pc := 1515) S (m_dec eL_law 1067 rfl) rfl ?_
                                                            exact ih (v3 + 6) h265
                                                          · refine ms_iconst (pc := 1045) S (m_dec eL_law 689 rfl) ?_
                                                            exact ms_ret (pc := 1046) E (m_dec eL_law 690 rfl) rfl
                                                        · refine ms_ite (fun q268 => ?_) (fun q268 => ?_)
                                                          · refine ms_swIn (pc := 33) S (m_dec eL_law 21 rfl) 27 q268 (by decide) (by decide) rfl rfl ?_
                                                            refine ms_aload_n (pc := 1047) S 1 rfl rfl (m_dec eL_law 691 rfl) ?_
                                                            refine ms_aload_n (pc := 1048) S 0 rfl rfl (m_dec eL_law 692 rfl) ?_
                                                            refine ms_iload_n (pc := 1049) S 3 rfl rfl (m_dec eL_law 693 rfl) ?_
                                                            refine ms_iconst (pc := 1050) S (m_dec eL_law 694 rfl) ?_
                                                            refine ms_iadd (pc := 1051) S (m_dec eL_law 695 rfl) ?_
                                                            refine ms_grd fun g269 => ?_
                                                            refine ms_sld (pc := 1052) S hX g1 g269 (m_dec eL_law 696 rfl) ?_
                                                            refine ms_aload_n (pc := 1053) S 0 rfl rfl (m_dec eL_law 697 rfl) ?_
                                                            refine ms_iload_n (pc := 1054) S 3 rfl rfl (m_dec eL_law 698 rfl) ?_
                                                            refine ms_iconst (pc := 1055) S (m_dec eL_law 699 rfl) ?_
                                                            refine ms_iadd (pc := 1056) S (m_dec eL_law 700 rfl) ?_
                                                            refine ms_grd fun g270 => ?_
                                                            refine ms_sld (pc := 1057) S hX g1 g270 (m_dec eL_law 701 rfl) ?_
                                                            refine ms_grd fun g271 => ?_
                                                            refine ms_callVi (pc := 1058) S hF (vals := [m_i (xs (m_w (v3 + 1))), m_i (xs (m_w (v3 + 2)))]) (st := []) (hc := vw_10) (hci := by decide) (hcy := rfl) (ht := g271) (hC := (k10_why _ _ v1 (xs (m_w (v3 + 1))) (xs (m_w (v3 + 2))) h)) (hM := lm_L_129) (hfr := (Nat.le_trans (by decide) hFn)) (hstk := rfl) (hcat := Nat.le_of_ble_eq_true rfl) (hd := (m_dec eL_law 702 rfl)) (k1 := fun r273 h272 => ?_)
                                                            refine ms_aload_n (pc := 1061) S 2 rfl rfl (m_dec eL_law 703 rfl) ?_
                                                            refine ms_aload_n (pc := 1062) S 0 rfl rfl (m_dec eL_law 704 rfl) ?_
                                                            refine ms_iload_n (pc := 1063) S 3 rfl rfl (m_dec eL_law 705 rfl) ?_
                                                            refine ms_iconst (pc := 1064) S (m_dec eL_law 706 rfl) ?_
                                                            refine ms_iadd (pc := 1065) S (m_dec eL_law 707 rfl) ?_
                                                            refine ms_sld (pc := 1066) S hX g1 g269 (m_dec eL_law 708 rfl) ?_
                                                            refine ms_aload_n (pc := 1067) S 0 rfl rfl (m_dec eL_law 709 rfl) ?_
                                                            refine ms_iload_n (pc := 1068) S 3 rfl rfl (m_dec eL_law 710 rfl) ?_
                                                            refine ms_iconst (pc := 1069) S (m_dec eL_law 711 rfl) ?_
                                                            refine ms_iadd (pc := 1070) S (m_dec eL_law 712 rfl) ?_
                                                            refine ms_sld (pc := 1071) S hX g1 g270 (m_dec eL_law 713 rfl) ?_
                                                            refine ms_grd fun g274 => ?_
                                                            refine ms_callVi (pc := 1072) S hF (vals := [m_i (xs (m_w (v3 + 1))), m_i (xs (m_w (v3 + 2)))]) (st := [m_i r273]) (hc := vw_11) (hci := by decide) (hcy := rfl) (ht := g274) (hC := (k11_why _ _ v2 (xs (m_w (v3 + 1))) (xs (m_w (v3 + 2))) h272)) (hM := lm_L_132) (hfr := (Nat.le_trans (by decide) hFn)) (hstk := rfl) (hcat := Nat.le_of_ble_eq_true rfl) (hd := (m_dec eL_law 714 rfl)) (k1 := fun r276 h275 => ?_)
                                                            refine ms_icmp_eq (pc := 1075) S (m_dec eL_law 715 rfl) rfl (fun q277 => ?_) (fun q277 => ?_)
                                                            · refine ms_iinc (pc := 1512) S (L' := [(0, m_r v0), (1, m_r v1), (2, m_r v2), (3, m_i (v3 + 6))]) 3 rfl [1, 2, 3, 0] rfl (m_lt hN rfl) (m_dec eL_law 1066 rfl) ?_
                                                              refine ms_goto (pc := 1515) S (m_dec eL_law 1067 rfl) rfl ?_
                                                              exact ih (v3 + 6) h275
                                                            · refine ms_iconst (pc := 1078) S (m_dec eL_law 716 rfl) ?_
                                                              exact ms_ret (pc := 1079) E (m_dec eL_law 717 rfl) rfl
                                                          · refine ms_ite (fun q278 => ?_) (fun q278 => ?_)
                                                            · refine ms_swIn (pc := 33) S (m_dec eL_law 21 rfl) 28 q278 (by decide) (by decide) rfl rfl ?_
                                                              refine ms_aload_n (pc := 1080) S 1 rfl rfl (m_dec eL_law 718 rfl) ?_
                                                              refine ms_aload_n (pc := 1081) S 0 rfl rfl (m_dec eL_law 719 rfl) ?_
                                                              refine ms_iload_n (pc := 1082) S 3 rfl rfl (m_dec eL_law 720 rfl) ?_
                                                              refine ms_iconst (pc := 1083) S (m_dec eL_law 721 rfl) ?_
                                                              refine ms_iadd (pc := 1084) S (m_dec eL_law 722 rfl) ?_
                                                              refine ms_grd fun g279 => ?_
                                                              refine ms_sld (pc := 1085) S hX g1 g279 (m_dec eL_law 723 rfl) ?_
                                                              refine ms_aload_n (pc := 1086) S 0 rfl rfl (m_dec eL_law 724 rfl) ?_
                                                              refine ms_iload_n (pc := 1087) S 3 rfl rfl (m_dec eL_law 725 rfl) ?_
                                                              refine ms_iconst (pc := 1088) S (m_dec eL_law 726 rfl) ?_
                                                              refine ms_iadd (pc := 1089) S (m_dec eL_law 727 rfl) ?_
                                                              refine ms_grd fun g280 => ?_
                                                              refine ms_sld (pc := 1090) S hX g1 g280 (m_dec eL_law 728 rfl) ?_
                                                              refine ms_aload_n (pc := 1091) S 0 rfl rfl (m_dec eL_law 729 rfl) ?_
                                                              refine ms_iload_n (pc := 1092) S 3 rfl rfl (m_dec eL_law 730 rfl) ?_
                                                              refine ms_iconst (pc := 1093) S (m_dec eL_law 731 rfl) ?_
                                                              refine ms_iadd (pc := 1094) S (m_dec eL_law 732 rfl) ?_
                                                              refine ms_grd fun g281 => ?_
                                                              refine ms_sld (pc := 1095) S hX g1 g281 (m_dec eL_law 733 rfl) ?_
                                                              refine ms_grd fun g282 => ?_
                                                              refine ms_callVi (pc := 1096) S hF (vals := [m_i (xs (m_w (v3 + 1))), m_i (xs (m_w (v3 + 2))), m_i (xs (m_w (v3 + 3)))]) (st := []) (hc := vw_10) (hci := by decide) (hcy := rfl) (ht := g282) (hC := (k10_lead _ _ v1 (xs (m_w (v3 + 1))) (xs (m_w (v3 + 2))) (xs (m_w (v3 + 3))) h)) (hM := lm_L_133) (hfr := (Nat.le_trans (by decide) hFn)) (hstk := rfl) (hcat := Nat.le_of_ble_eq_true rfl) (hd := (m_dec eL_law 734 rfl)) (k1 := fun r284 h283 => ?_)
                                                              refine ms_aload_n (pc := 1099) S 2 rfl rfl (m_dec eL_law 735 rfl) ?_
                                                              refine ms_aload_n (pc := 1100) S 0 rfl rfl (m_dec eL_law 736 rfl) ?_
                                                              refine ms_iload_n (pc := 1101) S 3 rfl rfl (m_dec eL_law 737 rfl) ?_
                                                              refine ms_iconst (pc := 1102) S (m_dec eL_law 738 rfl) ?_
                                                              refine ms_iadd (pc := 1103) S (m_dec eL_law 739 rfl) ?_
                                                              refine ms_sld (pc := 1104) S hX g1 g279 (m_dec eL_law 740 rfl) ?_
                                                              refine ms_aload_n (pc := 1105) S 0 rfl rfl (m_dec eL_law 741 rfl) ?_
                                                              refine ms_iload_n (pc := 1106) S 3 rfl rfl (m_dec eL_law 742 rfl) ?_
                                                              refine ms_iconst (pc := 1107) S (m_dec eL_law 743 rfl) ?_
                                                              refine ms_iadd (pc := 1108) S (m_dec eL_law 744 rfl) ?_
                                                              refine ms_sld (pc := 1109) S hX g1 g280 (m_dec eL_law 745 rfl) ?_
                                                              refine ms_aload_n (pc := 1110) S 0 rfl rfl (m_dec eL_law 746 rfl) ?_
                                                              refine ms_iload_n (pc := 1111) S 3 rfl rfl (m_dec eL_law 747 rfl) ?_
                                                              refine ms_iconst (pc := 1112) S (m_dec eL_law 748 rfl) ?_
                                                              refine ms_iadd (pc := 1113) S (m_dec eL_law 749 rfl) ?_
                                                              refine ms_sld (pc := 1114) S hX g1 g281 (m_dec eL_law 750 rfl) ?_
                                                              refine ms_grd fun g285 => ?_
                                                              refine ms_callVi (pc := 1115) S hF (vals := [m_i (xs (m_w (v3 + 1))), m_i (xs (m_w (v3 + 2))), m_i (xs (m_w (v3 + 3)))]) (st := [m_i r284]) (hc := vw_11) (hci := by decide) (hcy := rfl) (ht := g285) (hC := (k11_lead _ _ v2 (xs (m_w (v3 + 1))) (xs (m_w (v3 + 2))) (xs (m_w (v3 + 3))) h283)) (hM := lm_L_136) (hfr := (Nat.le_trans (by decide) hFn)) (hstk := rfl) (hcat := Nat.le_of_ble_eq_true rfl) (hd := (m_dec eL_law 751 rfl)) (k1 := fun r287 h286 => ?_)
                                                              refine ms_icmp_eq (pc := 1118) S (m_dec eL_law 752 rfl) rfl (fun q288 => ?_) (fun q288 => ?_)
                                                              · refine ms_iinc (pc := 1512) S (L' := [(0, m_r v0), (1, m_r v1), (2, m_r v2), (3, m_i (v3 + 6))]) 3 rfl [1, 2, 3, 0] rfl (m_lt hN rfl) (m_dec eL_law 1066 rfl) ?_
                                                                refine ms_goto (pc := 1515) S (m_dec eL_law 1067 rfl) rfl ?_
                                                                exact ih (v3 + 6) h286
                                                              · refine ms_iconst (pc := 1121) S (m_dec eL_law 753 rfl) ?_
                                                                exact ms_ret (pc := 1122) E (m_dec eL_law 754 rfl) rfl
                                                            · refine ms_ite (fun q289 => ?_) (fun q289 => ?_)
                                                              · refine ms_swIn (pc := 33) S (m_dec eL_law 21 rfl) 29 q289 (by decide) (by decide) rfl rfl ?_
                                                                refine ms_aload_n (pc := 1123) S 1 rfl rfl (m_dec eL_law 755 rfl) ?_
                                                                refine ms_aload_n (pc := 1124) S 0 rfl rfl (m_dec eL_law 756 rfl) ?_
                                                                refine ms_iload_n (pc := 1125) S 3 rfl rfl (m_dec eL_law 757 rfl) ?_
                                                                refine ms_iconst (pc := 1126) S (m_dec eL_law 758 rfl) ?_
                                                                refine ms_iadd (pc := 1127) S (m_dec eL_law 759 rfl) ?_
                                                                refine ms_grd fun g290 => ?_
                                                                refine ms_sld (pc := 1128) S hX g1 g290 (m_dec eL_law 760 rfl) ?_
                                                                refine ms_grd fun g291 => ?_
                                                                refine ms_callVi (pc := 1129) S hF (vals := [m_i (xs (m_w (v3 + 1)))]) (st := []) (hc := vw_10) (hci := by decide) (hcy := rfl) (ht := g291) (hC := (k10_quarrel _ _ v1 (xs (m_w (v3 + 1))) h)) (hM := lm_L_137) (hfr := (Nat.le_trans (by decide) hFn)) (hstk := rfl) (hcat := Nat.le_of_ble_eq_true rfl) (hd := (m_dec eL_law 761 rfl)) (k1 := fun r293 h292 => ?_)
                                                                refine ms_aload_n (pc := 1132) S 2 rfl rfl (m_dec eL_law 762 rfl) ?_
                                                                refine ms_aload_n (pc := 1133) S 0 rfl rfl (m_dec eL_law 763 rfl) ?_
                                                                refine ms_iload_n (pc := 1134) S 3 rfl rfl (m_dec eL_law 764 rfl) ?_
                                                                refine ms_iconst (pc := 1135) S (m_dec eL_law 765 rfl) ?_
                                                                refine ms_iadd (pc := 1136) S (m_dec eL_law 766 rfl) ?_
                                                                refine ms_sld (pc := 1137) S hX g1 g290 (m_dec eL_law 767 rfl) ?_
                                                                refine ms_grd fun g294 => ?_
                                                                refine ms_callVi (pc := 1138) S hF (vals := [m_i (xs (m_w (v3 + 1)))]) (st := [m_i r293]) (hc := vw_11) (hci := by decide) (hcy := rfl) (ht := g294) (hC := (k11_quarrel _ _ v2 (xs (m_w (v3 + 1))) h292)) (hM := lm_L_140) (hfr := (Nat.le_trans (by decide) hFn)) (hstk := rfl) (hcat := Nat.le_of_ble_eq_true rfl) (hd := (m_dec eL_law 768 rfl)) (k1 := fun r296 h295 => ?_)
                                                                refine ms_icmp_eq (pc := 1141) S (m_dec eL_law 769 rfl) rfl (fun q297 => ?_) (fun q297 => ?_)
                                                                · refine ms_iinc (pc := 1512) S (L' := [(0, m_r v0), (1, m_r v1), (2, m_r v2), (3, m_i (v3 + 6))]) 3 rfl [1, 2, 3, 0] rfl (m_lt hN rfl) (m_dec eL_law 1066 rfl) ?_
                                                                  refine ms_goto (pc := 1515) S (m_dec eL_law 1067 rfl) rfl ?_
                                                                  exact ih (v3 + 6) h295
                                                                · refine ms_iconst (pc := 1144) S (m_dec eL_law 770 rfl) ?_
                                                                  exact ms_ret (pc := 1145) E (m_dec eL_law 771 rfl) rfl
                                                              · refine ms_ite (fun q298 => ?_) (fun q298 => ?_)
                                                                · refine ms_swIn (pc := 33) S (m_dec eL_law 21 rfl) 30 q298 (by decide) (by decide) rfl rfl ?_
                                                                  refine ms_aload_n (pc := 1146) S 1 rfl rfl (m_dec eL_law 772 rfl) ?_
                                                                  refine ms_aload_n (pc := 1147) S 0 rfl rfl (m_dec eL_law 773 rfl) ?_
                                                                  refine ms_iload_n (pc := 1148) S 3 rfl rfl (m_dec eL_law 774 rfl) ?_
                                                                  refine ms_iconst (pc := 1149) S (m_dec eL_law 775 rfl) ?_
                                                                  refine ms_iadd (pc := 1150) S (m_dec eL_law 776 rfl) ?_
                                                                  refine ms_grd fun g299 => ?_
                                                                  refine ms_sld (pc := 1151) S hX g1 g299 (m_dec eL_law 777 rfl) ?_
                                                                  refine ms_grd fun g300 => ?_
                                                                  refine ms_callVi (pc := 1152) S hF (vals := [m_i (xs (m_w (v3 + 1)))]) (st := []) (hc := vw_10) (hci := by decide) (hcy := rfl) (ht := g300) (hC := (k10_open _ _ v1 (xs (m_w (v3 + 1))) h)) (hM := lm_L_141) (hfr := (Nat.le_trans (by decide) hFn)) (hstk := rfl) (hcat := Nat.le_of_ble_eq_true rfl) (hd := (m_dec eL_law 778 rfl)) (k1 := fun r302 h301 => ?_)
                                                                  refine ms_aload_n (pc := 1155) S 2 rfl rfl (m_dec eL_law 779 rfl) ?_
                                                                  refine ms_aload_n (pc := 1156) S 0 rfl rfl (m_dec eL_law 780 rfl) ?_
                                                                  refine ms_iload_n (pc := 1157) S 3 rfl rfl (m_dec eL_law 781 rfl) ?_
                                                                  refine ms_iconst (pc := 1158) S (m_dec eL_law 782 rfl) ?_
                                                                  refine ms_iadd (pc := 1159) S (m_dec eL_law 783 rfl) ?_
                                                                  refine ms_sld (pc := 1160) S hX g1 g299 (m_dec eL_law 784 rfl) ?_
                                                                  refine ms_grd fun g303 => ?_
                                                                  refine ms_callVi (pc := 1161) S hF (vals := [m_i (xs (m_w (v3 + 1)))]) (st := [m_i r302]) (hc := vw_11) (hci := by decide) (hcy := rfl) (ht := g303) (hC := (k11_open _ _ v2 (xs (m_w (v3 + 1))) h301)) (hM := lm_L_144) (hfr := (Nat.le_trans (by decide) hFn)) (hstk := rfl) (hcat := Nat.le_of_ble_eq_true rfl) (hd := (m_dec eL_law 785 rfl)) (k1 := fun r305 h304 => ?_)
                                                                  refine ms_icmp_eq (pc := 1164) S (m_dec eL_law 786 rfl) rfl (fun q306 => ?_) (fun q306 => ?_)
                                                                  · refine ms_iinc (pc := 1512) S (L' := [(0, m_r v0), (1, m_r v1), (2, m_r v2), (3, m_i (v3 + 6))]) 3 rfl [1, 2, 3, 0] rfl (m_lt hN rfl) (m_dec eL_law 1066 rfl) ?_
                                                                    refine ms_goto (pc := 1515) S (m_dec eL_law 1067 rfl) rfl ?_
                                                                    exact ih (v3 + 6) h304
                                                                  · refine ms_iconst (pc := 1167) S (m_dec eL_law 787 rfl) ?_
                                                                    exact ms_ret (pc := 1168) E (m_dec eL_law 788 rfl) rfl
                                                                · refine ms_ite (fun q307 => ?_) (fun q307 => ?_)
                                                                  · refine ms_swIn (pc := 33) S (m_dec eL_law 21 rfl) 31 q307 (by decide) (by decide) rfl rfl ?_
                                                                    refine ms_aload_n (pc := 1169) S 1 rfl rfl (m_dec eL_law 789 rfl) ?_
                                                                    refine ms_aload_n (pc := 1170) S 0 rfl rfl (m_dec eL_law 790 rfl) ?_
                                                                    refine ms_iload_n (pc := 1171) S 3 rfl rfl (m_dec eL_law 791 rfl) ?_
                                                                    refine ms_iconst (pc := 1172) S (m_dec eL_law 792 rfl) ?_
                                                                    refine ms_iadd (pc := 1173) S (m_dec eL_law 793 rfl) ?_
                                                                    refine ms_grd fun g308 => ?_
                                                                    refine ms_sld (pc := 1174) S hX g1 g308 (m_dec eL_law 794 rfl) ?_
                                                                    refine ms_grd fun g309 => ?_
                                                                    refine ms_callVi (pc := 1175) S hF (vals := [m_i (xs (m_w (v3 + 1)))]) (st := []) (hc := vw_10) (hci := by decide) (hcy := rfl) (ht := g309) (hC := (k10_turns _ _ v1 (xs (m_w (v3 + 1))) h)) (hM := lm_L_145) (hfr := (Nat.le_trans (by decide) hFn)) (hstk := rfl) (hcat := Nat.le_of_ble_eq_true rfl) (hd := (m_dec eL_law 795 rfl)) (k1 := fun r311 h310 => ?_)
                                                                    refine ms_aload_n (pc := 1178) S 2 rfl rfl (m_dec eL_law 796 rfl) ?_
                                                                    refine ms_aload_n (pc := 1179) S 0 rfl rfl (m_dec eL_law 797 rfl) ?_
                                                                    refine ms_iload_n (pc := 1180) S 3 rfl rfl (m_dec eL_law 798 rfl) ?_
                                                                    refine ms_iconst (pc := 1181) S (m_dec eL_law 799 rfl) ?_
                                                                    refine ms_iadd (pc := 1182) S (m_dec eL_law 800 rfl) ?_
                                                                    refine ms_sld (pc := 1183) S hX g1 g308 (m_dec eL_law 801 rfl) ?_
                                                                    refine ms_grd fun g312 => ?_
                                                                    refine ms_callVi (pc := 1184) S hF (vals := [m_i (xs (m_w (v3 + 1)))]) (st := [m_i r311]) (hc := vw_11) (hci := by decide) (hcy := rfl) (ht := g312) (hC := (k11_turns _ _ v2 (xs (m_w (v3 + 1))) h310)) (hM := lm_L_148) (hfr := (Nat.le_trans (by decide) hFn)) (hstk := rfl) (hcat := Nat.le_of_ble_eq_true rfl) (hd := (m_dec eL_law 802 rfl)) (k1 := fun r314 h313 => ?_)
                                                                    refine ms_icmp_eq (pc := 1187) S (m_dec eL_law 803 rfl) rfl (fun q315 => ?_) (fun q315 => ?_)
                                                                    · refine ms_iinc (pc := 1512) S (L' := [(0, m_r v0), (1, m_r v1), (2, m_r v2), (3, m_i (v3 + 6))]) 3 rfl [1, 2, 3, 0] rfl (m_lt hN rfl) (m_dec eL_law 1066 rfl) ?_
                                                                      refine ms_goto (pc := 1515) S (m_dec eL_law 1067 rfl) rfl ?_
                                                                      exact ih (v3 + 6) h313
                                                                    · refine ms_iconst (pc := 1190) S (m_dec eL_law 804 rfl) ?_
                                                                      exact ms_ret (pc := 1191) E (m_dec eL_law 805 rfl) rfl
                                                                  · refine ms_ite (fun q316 => ?_) (fun q316 => ?_)
                                                                    · refine ms_swIn (pc := 33) S (m_dec eL_law 21 rfl) 32 q316 (by decide) (by decide) rfl rfl ?_
                                                                      refine ms_aload_n (pc := 1192) S 1 rfl rfl (m_dec eL_law 806 rfl) ?_
                                                                      refine ms_aload_n (pc := 1193) S 0 rfl rfl (m_dec eL_law 807 rfl) ?_
                                                                      refine ms_iload_n (pc := 1194) S 3 rfl rfl (m_dec eL_law 808 rfl) ?_
                                                                      refine ms_iconst (pc := 1195) S (m_dec eL_law 809 rfl) ?_
                                                                      refine ms_iadd (pc := 1196) S (m_dec eL_law 810 rfl) ?_
                                                                      refine ms_grd fun g317 => ?_
                                                                      refine ms_sld (pc := 1197) S hX g1 g317 (m_dec eL_law 811 rfl) ?_
                                                                      refine ms_aload_n (pc := 1198) S 0 rfl rfl (m_dec eL_law 812 rfl) ?_
                                                                      refine ms_iload_n (pc := 1199) S 3 rfl rfl (m_dec eL_law 813 rfl) ?_
                                                                      refine ms_iconst (pc := 1200) S (m_dec eL_law 814 rfl) ?_
                                                                      refine ms_iadd (pc := 1201) S (m_dec eL_law 815 rfl) ?_
                                                                      refine ms_grd fun g318 => ?_
                                                                      refine ms_sld (pc := 1202) S hX g1 g318 (m_dec eL_law 816 rfl) ?_
                                                                      refine ms_grd fun g319 => ?_
                                                                      refine ms_callVi (pc := 1203) S hF (vals := [m_i (xs (m_w (v3 + 1))), m_i (xs (m_w (v3 + 2)))]) (st := []) (hc := vw_10) (hci := by decide) (hcy := rfl) (ht := g319) (hC := (k10_turnOf _ _ v1 (xs (m_w (v3 + 1))) (xs (m_w (v3 + 2))) h)) (hM := lm_L_149) (hfr := (Nat.le_trans (by decide) hFn)) (hstk := rfl) (hcat := Nat.le_of_ble_eq_true rfl) (hd := (m_dec eL_law 817 rfl)) (k1 := fun r321 h320 => ?_)
                                                                      refine ms_aload_n (pc := 1206) S 2 rfl rfl (m_dec eL_law 818 rfl) ?_
                                                                      refine ms_aload_n (pc := 1207) S 0 rfl rfl (m_dec eL_law 819 rfl) ?_
                                                                      refine ms_iload_n (pc := 1208) S 3 rfl rfl (m_dec eL_law 820 rfl) ?_
                                                                      refine ms_iconst (pc := 1209) S (m_dec eL_law 821 rfl) ?_
                                                                      refine ms_iadd (pc := 1210) S (m_dec eL_law 822 rfl) ?_
                                                                      refine ms_sld (pc := 1211) S hX g1 g317 (m_dec eL_law 823 rfl) ?_
                                                                      refine ms_aload_n (pc := 1212) S 0 rfl rfl (m_dec eL_law 824 rfl) ?_
                                                                      refine ms_iload_n (pc := 1213) S 3 rfl rfl (m_dec eL_law 825 rfl) ?_
                                                                      refine ms_iconst (pc := 1214) S (m_dec eL_law 826 rfl) ?_
                                                                      refine ms_iadd (pc := 1215) S (m_dec eL_law 827 rfl) ?_
                                                                      refine ms_sld (pc := 1216) S hX g1 g318 (m_dec eL_law 828 rfl) ?_
                                                                      refine ms_grd fun g322 => ?_
                                                                      refine ms_callVi (pc := 1217) S hF (vals := [m_i (xs (m_w (v3 + 1))), m_i (xs (m_w (v3 + 2)))]) (st := [m_i r321]) (hc := vw_11) (hci := by decide) (hcy := rfl) (ht := g322) (hC := (k11_turnOf _ _ v2 (xs (m_w (v3 + 1))) (xs (m_w (v3 + 2))) h320)) (hM := lm_L_152) (hfr := (Nat.le_trans (by decide) hFn)) (hstk := rfl) (hcat := Nat.le_of_ble_eq_true rfl) (hd := (m_dec eL_law 829 rfl)) (k1 := fun r324 h323 => ?_)
                                                                      refine ms_icmp_eq (pc := 1220) S (m_dec eL_law 830 rfl) rfl (fun q325 => ?_) (fun q325 => ?_)
                                                                      · refine ms_iinc (pc := 1512) S (L' := [(0, m_r v0), (1, m_r v1), (2, m_r v2), (3, m_i (v3 + 6))]) 3 rfl [1, 2, 3, 0] rfl (m_lt hN rfl) (m_dec eL_law 1066 rfl) ?_
                                                                        refine ms_goto (pc := 1515) S (m_dec eL_law 1067 rfl) rfl ?_
                                                                        exact ih (v3 + 6) h323
                                                                      · refine ms_iconst (pc := 1223) S (m_dec eL_law 831 rfl) ?_
                                                                        exact ms_ret (pc := 1224) E (m_dec eL_law 832 rfl) rfl
                                                                    · refine ms_ite (fun q326 => ?_) (fun q326 => ?_)
                                                                      · refine ms_swIn (pc := 33) S (m_dec eL_law 21 rfl) 33 q326 (by decide) (by decide) rfl rfl ?_
                                                                        refine ms_aload_n (pc := 1225) S 1 rfl rfl (m_dec eL_law 833 rfl) ?_
                                                                        refine ms_aload_n (pc := 1226) S 0 rfl rfl (m_dec eL_law 834 rfl) ?_
                                                                        refine ms_iload_n (pc := 1227) S 3 rfl rfl (m_dec eL_law 835 rfl) ?_
                                                                        refine ms_iconst (pc := 1228) S (m_dec eL_law 836 rfl) ?_
                                                                        refine ms_iadd (pc := 1229) S (m_dec eL_law 837 rfl) ?_
                                                                        refine ms_grd fun g327 => ?_
                                                                        refine ms_sld (pc := 1230) S hX g1 g327 (m_dec eL_law 838 rfl) ?_
                                                                        refine ms_grd fun g328 => ?_
                                                                        refine ms_callVi (pc := 1231) S hF (vals := [m_i (xs (m_w (v3 + 1)))]) (st := []) (hc := vw_10) (hci := by decide) (hcy := rfl) (ht := g328) (hC := (k10_deep _ _ v1 (xs (m_w (v3 + 1))) h)) (hM := lm_L_153) (hfr := (Nat.le_trans (by decide) hFn)) (hstk := rfl) (hcat := Nat.le_of_ble_eq_true rfl) (hd := (m_dec eL_law 839 rfl)) (k1 := fun r330 h329 => ?_)
                                                                        refine ms_aload_n (pc := 1234) S 2 rfl rfl (m_dec eL_law 840 rfl) ?_
                                                                        refine ms_aload_n (pc := 1235) S 0 rfl rfl (m_dec eL_law 841 rfl) ?_
                                                                        refine ms_iload_n (pc := 1236) S 3 rfl rfl (m_dec eL_law 842 rfl) ?_
                                                                        refine ms_iconst (pc := 1237) S (m_dec eL_law 843 rfl) ?_
                                                                        refine ms_iadd (pc := 1238) S (m_dec eL_law 844 rfl) ?_
                                                                        refine ms_sld (pc := 1239) S hX g1 g327 (m_dec eL_law 845 rfl) ?_
                                                                        refine ms_grd fun g331 => ?_
                                                                        refine ms_callVi (pc := 1240) S hF (vals := [m_i (xs (m_w (v3 + 1)))]) (st := [m_i r330]) (hc := vw_11) (hci := by decide) (hcy := rfl) (ht := g331) (hC := (k11_deep _ _ v2 (xs (m_w (v3 + 1))) h329)) (hM := lm_L_156) (hfr := (Nat.le_trans (by decide) hFn)) (hstk := rfl) (hcat := Nat.le_of_ble_eq_true rfl) (hd := (m_dec eL_law 846 rfl)) (k1 := fun r333 h332 => ?_)
                                                                        refine ms_icmp_eq (pc := 1243) S (m_dec eL_law 847 rfl) rfl (fun q334 => ?_) (fun q334 => ?_)
                                                                        · refine ms_iinc (pc := 1512) S (L' := [(0, m_r v0), (1, m_r v1), (2, m_r v2), (3, m_i (v3 + 6))]) 3 rfl [1, 2, 3, 0] rfl (m_lt hN rfl) (m_dec eL_law 1066 rfl) ?_
                                                                          refine ms_goto (pc := 1515) S (m_dec eL_law 1067 rfl) rfl ?_
                                                                          exact ih (v3 + 6) h332
                                                                        · refine ms_iconst (pc := 1246) S (m_dec eL_law 848 rfl) ?_
                                                                          exact ms_ret (pc := 1247) E (m_dec eL_law 849 rfl) rfl
                                                                      · refine ms_ite (fun q335 => ?_) (fun q335 => ?_)
                                                                        · refine ms_swIn (pc := 33) S (m_dec eL_law 21 rfl) 34 q335 (by decide) (by decide) rfl rfl ?_
                                                                          refine ms_aload_n (pc := 1248) S 1 rfl rfl (m_dec eL_law 850 rfl) ?_
                                                                          refine ms_aload_n (pc := 1249) S 0 rfl rfl (m_dec eL_law 851 rfl) ?_
                                                                          refine ms_iload_n (pc := 1250) S 3 rfl rfl (m_dec eL_law 852 rfl) ?_
                                                                          refine ms_iconst (pc := 1251) S (m_dec eL_law 853 rfl) ?_
                                                                          refine ms_iadd (pc := 1252) S (m_dec eL_law 854 rfl) ?_
                                                                          refine ms_grd fun g336 => ?_
                                                                          refine ms_sld (pc := 1253) S hX g1 g336 (m_dec eL_law 855 rfl) ?_
                                                                          refine ms_grd fun g337 => ?_
                                                                          refine ms_callVi (pc := 1254) S hF (vals := [m_i (xs (m_w (v3 + 1)))]) (st := []) (hc := vw_10) (hci := by decide) (hcy := rfl) (ht := g337) (hC := (k10_tape _ _ v1 (xs (m_w (v3 + 1))) h)) (hM := lm_L_157) (hfr := (Nat.le_trans (by decide) hFn)) (hstk := rfl) (hcat := Nat.le_of_ble_eq_true rfl) (hd := (m_dec eL_law 856 rfl)) (k1 := fun r339 h338 => ?_)
                                                                          refine ms_aload_n (pc := 1257) S 2 rfl rfl (m_dec eL_law 857 rfl) ?_
                                                                          refine ms_aload_n (pc := 1258) S 0 rfl rfl (m_dec eL_law 858 rfl) ?_
                                                                          refine ms_iload_n (pc := 1259) S 3 rfl rfl (m_dec eL_law 859 rfl) ?_
                                                                          refine ms_iconst (pc := 1260) S (m_dec eL_law 860 rfl) ?_
                                                                          refine ms_iadd (pc := 1261) S (m_dec eL_law 861 rfl) ?_
                                                                          refine ms_sld (pc := 1262) S hX g1 g336 (m_dec eL_law 862 rfl) ?_
                                                                          refine ms_grd fun g340 => ?_
                                                                          refine ms_callVi (pc := 1263) S hF (vals := [m_i (xs (m_w (v3 + 1)))]) (st := [m_i r339]) (hc := vw_11) (hci := by decide) (hcy := rfl) (ht := g340) (hC := (k11_tape _ _ v2 (xs (m_w (v3 + 1))) h338)) (hM := lm_L_160) (hfr := (Nat.le_trans (by decide) hFn)) (hstk := rfl) (hcat := Nat.le_of_ble_eq_true rfl) (hd := (m_dec eL_law 863 rfl)) (k1 := fun r342 h341 => ?_)
                                                                          refine ms_icmp_eq (pc := 1266) S (m_dec eL_law 864 rfl) rfl (fun q343 => ?_) (fun q343 => ?_)
                                                                          · refine ms_iinc (pc := 1512) S (L' := [(0, m_r v0), (1, m_r v1), (2, m_r v2), (3, m_i (v3 + 6))]) 3 rfl [1, 2, 3, 0] rfl (m_lt hN rfl) (m_dec eL_law 1066 rfl) ?_
                                                                            refine ms_goto (pc := 1515) S (m_dec eL_law 1067 rfl) rfl ?_
                                                                            exact ih (v3 + 6) h341
                                                                          · refine ms_iconst (pc := 1269) S (m_dec eL_law 865 rfl) ?_
                                                                            exact ms_ret (pc := 1270) E (m_dec eL_law 866 rfl) rfl
                                                                        · refine ms_ite (fun q344 => ?_) (fun q344 => ?_)
                                                                          · refine ms_swIn (pc := 33) S (m_dec eL_law 21 rfl) 35 q344 (by decide) (by decide) rfl rfl ?_
                                                                            refine ms_aload_n (pc := 1271) S 1 rfl rfl (m_dec eL_law 867 rfl) ?_
                                                                            refine ms_grd fun g345 => ?_
                                                                            refine ms_callVi (pc := 1272) S hF (vals := []) (st := []) (hc := vw_10) (hci := by decide) (hcy := rfl) (ht := g345) (hC := (k10_wipe _ _ v1 h)) (hM := lm_L_161) (hfr := (Nat.le_trans (by decide) hFn)) (hstk := rfl) (hcat := Nat.le_of_ble_eq_true rfl) (hd := (m_dec eL_law 868 rfl)) (k1 := fun r347 h346 => ?_)
                                                                            refine ms_aload_n (pc := 1275) S 2 rfl rfl (m_dec eL_law 869 rfl) ?_
                                                                            refine ms_grd fun g348 => ?_
                                                                            refine ms_callVi (pc := 1276) S hF (vals := []) (st := [m_i r347]) (hc := vw_11) (hci := by decide) (hcy := rfl) (ht := g348) (hC := (k11_wipe _ _ v2 h346)) (hM := lm_L_164) (hfr := (Nat.le_trans (by decide) hFn)) (hstk := rfl) (hcat := Nat.le_of_ble_eq_true rfl) (hd := (m_dec eL_law 870 rfl)) (k1 := fun r350 h349 => ?_)
                                                                            refine ms_icmp_eq (pc := 1279) S (m_dec eL_law 871 rfl) rfl (fun q351 => ?_) (fun q351 => ?_)
                                                                            · refine ms_iinc (pc := 1512) S (L' := [(0, m_r v0), (1, m_r v1), (2, m_r v2), (3, m_i (v3 + 6))]) 3 rfl [1, 2, 3, 0] rfl (m_lt hN rfl) (m_dec eL_law 1066 rfl) ?_
                                                                              refine ms_goto (pc := 1515) S (m_dec eL_law 1067 rfl) rfl ?_
                                                                              exact ih (v3 + 6) h349
                                                                            · refine ms_iconst (pc := 1282) S (m_dec eL_law 872 rfl) ?_
                                                                              exact ms_ret (pc := 1283) E (m_dec eL_law 873 rfl) rfl
                                                                          · refine ms_ite (fun q352 => ?_) (fun q352 => ?_)
                                                                            · refine ms_swIn (pc := 33) S (m_dec eL_law 21 rfl) 36 q352 (by decide) (by decide) rfl rfl ?_
                                                                              refine ms_aload_n (pc := 1284) S 1 rfl rfl (m_dec eL_law 874 rfl) ?_
                                                                              refine ms_aload_n (pc := 1285) S 0 rfl rfl (m_dec eL_law 875 rfl) ?_
                                                                              refine ms_iload_n (pc := 1286) S 3 rfl rfl (m_dec eL_law 876 rfl) ?_
                                                                              refine ms_iconst (pc := 1287) S (m_dec eL_law 877 rfl) ?_
                                                                              refine ms_iadd (pc := 1288) S (m_dec eL_law 878 rfl) ?_
                                                                              refine ms_grd fun g353 => ?_
                                                                              refine ms_sld (pc := 1289) S hX g1 g353 (m_dec eL_law 879 rfl) ?_
                                                                              refine ms_aload_n (pc := 1290) S 0 rfl rfl (m_dec eL_law 880 rfl) ?_
                                                                              refine ms_iload_n (pc := 1291) S 3 rfl rfl (m_dec eL_law 881 rfl) ?_
                                                                              refine ms_iconst (pc := 1292) S (m_dec eL_law 882 rfl) ?_
                                                                              refine ms_iadd (pc := 1293) S (m_dec eL_law 883 rfl) ?_
                                                                              refine ms_grd fun g354 => ?_
                                                                              refine ms_sld (pc := 1294) S hX g1 g354 (m_dec eL_law 884 rfl) ?_
                                                                              refine ms_aload_n (pc := 1295) S 0 rfl rfl (m_dec eL_law 885 rfl) ?_
                                                                              refine ms_iload_n (pc := 1296) S 3 rfl rfl (m_dec eL_law 886 rfl) ?_
                                                                              refine ms_iconst (pc := 1297) S (m_dec eL_law 887 rfl) ?_
                                                                              refine ms_iadd (pc := 1298) S (m_dec eL_law 888 rfl) ?_
                                                                              refine ms_grd fun g355 => ?_
                                                                              refine ms_sld (pc := 1299) S hX g1 g355 (m_dec eL_law 889 rfl) ?_
                                                                              refine ms_aload_n (pc := 1300) S 0 rfl rfl (m_dec eL_law 890 rfl) ?_
                                                                              refine ms_iload_n (pc := 1301) S 3 rfl rfl (m_dec eL_law 891 rfl) ?_
                                                                              refine ms_iconst (pc := 1302) S (m_dec eL_law 892 rfl) ?_
                                                                              refine ms_iadd (pc := 1303) S (m_dec eL_law 893 rfl) ?_
                                                                              refine ms_grd fun g356 => ?_
                                                                              refine ms_sld (pc := 1304) S hX g1 g356 (m_dec eL_law 894 rfl) ?_
                                                                              refine ms_grd fun g357 => ?_
                                                                              refine ms_callVi (pc := 1305) S hF (vals := [m_i (xs (m_w (v3 + 1))), m_i (xs (m_w (v3 + 2))), m_i (xs (m_w (v3 + 3))), m_i (xs (m_w (v3 + 4)))]) (st := []) (hc := vw_10) (hci := by decide) (hcy := rfl) (ht := g357) (hC := (k10_near _ _ v1 (xs (m_w (v3 + 1))) (xs (m_w (v3 + 2))) (xs (m_w (v3 + 3))) (xs (m_w (v3 + 4))) h)) (hM := lm_L_165) (hfr := (Nat.le_trans (by decide) hFn)) (hstk := rfl) (hcat := Nat.le_of_ble_eq_true rfl) (hd := (m_dec eL_law 895 rfl)) (k1 := fun r359 h358 => ?_)
                                                                              refine ms_aload_n (pc := 1308) S 2 rfl rfl (m_dec eL_law 896 rfl) ?_
                                                                              refine ms_aload_n (pc := 1309) S 0 rfl rfl (m_dec eL_law 897 rfl) ?_
                                                                              refine ms_iload_n (pc := 1310) S 3 rfl rfl (m_dec eL_law 898 rfl) ?_
                                                                              refine ms_iconst (pc := 1311) S (m_dec eL_law 899 rfl) ?_
                                                                              refine ms_iadd (pc := 1312) S (m_dec eL_law 900 rfl) ?_
                                                                              refine ms_sld (pc := 1313) S hX g1 g353 (m_dec eL_law 901 rfl) ?_
                                                                              refine ms_aload_n (pc := 1314) S 0 rfl rfl (m_dec eL_law 902 rfl) ?_
                                                                              refine ms_iload_n (pc := 1315) S 3 rfl rfl (m_dec eL_law 903 rfl) ?_
                                                                              refine ms_iconst (pc := 1316) S (m_dec eL_law 904 rfl) ?_
                                                                              refine ms_iadd (pc := 1317) S (m_dec eL_law 905 rfl) ?_
                                                                              refine ms_sld (pc := 1318) S hX g1 g354 (m_dec eL_law 906 rfl) ?_
                                                                              refine ms_aload_n (pc := 1319) S 0 rfl rfl (m_dec eL_law 907 rfl) ?_
                                                                              refine ms_iload_n (pc := 1320) S 3 rfl rfl (m_dec eL_law 908 rfl) ?_
                                                                              refine ms_iconst (pc := 1321) S (m_dec eL_law 909 rfl) ?_
                                                                              refine ms_iadd (pc := 1322) S (m_dec eL_law 910 rfl) ?_
                                                                              refine ms_sld (pc := 1323) S hX g1 g355 (m_dec eL_law 911 rfl) ?_
                                                                              refine ms_aload_n (pc := 1324) S 0 rfl rfl (m_dec eL_law 912 rfl) ?_
                                                                              refine ms_iload_n (pc := 1325) S 3 rfl rfl (m_dec eL_law 913 rfl) ?_
                                                                              refine ms_iconst (pc := 1326) S (m_dec eL_law 914 rfl) ?_
                                                                              refine ms_iadd (pc := 1327) S (m_dec eL_law 915 rfl) ?_
                                                                              refine ms_sld (pc := 1328) S hX g1 g356 (m_dec eL_law 916 rfl) ?_
                                                                              refine ms_grd fun g360 => ?_
                                                                              refine ms_callVi (pc := 1329) S hF (vals := [m_i (xs (m_w (v3 + 1))), m_i (xs (m_w (v3 + 2))), m_i (xs (m_w (v3 + 3))), m_i (xs (m_w (v3 + 4)))]) (st := [m_i r359]) (hc := vw_11) (hci := by decide) (hcy := rfl) (ht := g360) (hC := (k11_near _ _ v2 (xs (m_w (v3 + 1))) (xs (m_w (v3 + 2))) (xs (m_w (v3 + 3))) (xs (m_w (v3 + 4))) h358)) (hM := lm_L_168) (hfr := (Nat.le_trans (by decide) hFn)) (hstk := rfl) (hcat := Nat.le_of_ble_eq_true rfl) (hd := (m_dec eL_law 917 rfl)) (k1 := fun r362 h361 => ?_)
                                                                              refine ms_icmp_eq (pc := 1332) S (m_dec eL_law 918 rfl) rfl (fun q363 => ?_) (fun q363 => ?_)
                                                                              · refine ms_iinc (pc := 1512) S (L' := [(0, m_r v0), (1, m_r v1), (2, m_r v2), (3, m_i (v3 + 6))]) 3 rfl [1, 2, 3, 0] rfl (m_lt hN rfl) (m_dec eL_law 1066 rfl) ?_
                                                                                refine ms_goto (pc := 1515) S (m_dec eL_law 1067 rfl) rfl ?_
                                                                                exact ih (v3 + 6) h361
                                                                              · refine ms_iconst (pc := 1335) S (m_dec eL_law 919 rfl) ?_
                                                                                exact ms_ret (pc := 1336) E (m_dec eL_law 920 rfl) rfl
                                                                            · refine ms_ite (fun q364 => ?_) (fun q364 => ?_)
                                                                              · refine ms_swIn (pc := 33) S (m_dec eL_law 21 rfl) 37 q364 (by decide) (by decide) rfl rfl ?_
                                                                                refine ms_aload_n (pc := 1337) S 1 rfl rfl (m_dec eL_law 921 rfl) ?_
                                                                                refine ms_aload_n (pc := 1338) S 0 rfl rfl (m_dec eL_law 922 rfl) ?_
                                                                                refine ms_iload_n (pc := 1339) S 3 rfl rfl (m_dec eL_law 923 rfl) ?_
                                                                                refine ms_iconst (pc := 1340) S (m_dec eL_law 924 rfl) ?_
                                                                                refine ms_iadd (pc := 1341) S (m_dec eL_law 925 rfl) ?_
                                                                                refine ms_grd fun g365 => ?_
                                                                                refine ms_sld (pc := 1342) S hX g1 g365 (m_dec eL_law 926 rfl) ?_
                                                                                refine ms_aload_n (pc := 1343) S 0 rfl rfl (m_dec eL_law 927 rfl) ?_
                                                                                refine ms_iload_n (pc := 1344) S 3 rfl rfl (m_dec eL_law 928 rfl) ?_
                                                                                refine ms_iconst (pc := 1345) S (m_dec eL_law 929 rfl) ?_
                                                                                refine ms_iadd (pc := 1346) S (m_dec eL_law 930 rfl) ?_
                                                                                refine ms_grd fun g366 => ?_
                                                                                refine ms_sld (pc := 1347) S hX g1 g366 (m_dec eL_law 931 rfl) ?_
                                                                                refine ms_aload_n (pc := 1348) S 0 rfl rfl (m_dec eL_law 932 rfl) ?_
                                                                                refine ms_iload_n (pc := 1349) S 3 rfl rfl (m_dec eL_law 933 rfl) ?_
                                                                                refine ms_iconst (pc := 1350) S (m_dec eL_law 934 rfl) ?_
                                                                                refine ms_iadd (pc := 1351) S (m_dec eL_law 935 rfl) ?_
                                                                                refine ms_grd fun g367 => ?_
                                                                                refine ms_sld (pc := 1352) S hX g1 g367 (m_dec eL_law 936 rfl) ?_
                                                                                refine ms_grd fun g368 => ?_
                                                                                refine ms_callVi (pc := 1353) S hF (vals := [m_i (xs (m_w (v3 + 1))), m_i (xs (m_w (v3 + 2))), m_i (xs (m_w (v3 + 3)))]) (st := []) (hc := vw_10) (hci := by decide) (hcy := rfl) (ht := g368) (hC := (k10_rivals _ _ v1 (xs (m_w (v3 + 1))) (xs (m_w (v3 + 2))) (xs (m_w (v3 + 3))) h)) (hM := lm_L_169) (hfr := (Nat.le_trans (by decide) hFn)) (hstk := rfl) (hcat := Nat.le_of_ble_eq_true rfl) (hd := (m_dec eL_law 937 rfl)) (k1 := fun r370 h369 => ?_)
                                                                                refine ms_aload_n (pc := 1356) S 2 rfl rfl (m_dec eL_law 938 rfl) ?_
                                                                                refine ms_aload_n (pc := 1357) S 0 rfl rfl (m_dec eL_law 939 rfl) ?_
                                                                                refine ms_iload_n (pc := 1358) S 3 rfl rfl (m_dec eL_law 940 rfl) ?_
                                                                                refine ms_iconst (pc := 1359) S (m_dec eL_law 941 rfl) ?_
                                                                                refine ms_iadd (pc := 1360) S (m_dec eL_law 942 rfl) ?_
                                                                                refine ms_sld (pc := 1361) S hX g1 g365 (m_dec eL_law 943 rfl) ?_
                                                                                refine ms_aload_n (pc := 1362) S 0 rfl rfl (m_dec eL_law 944 rfl) ?_
                                                                                refine ms_iload_n (pc := 1363) S 3 rfl rfl (m_dec eL_law 945 rfl) ?_
                                                                                refine ms_iconst (pc := 1364) S (m_dec eL_law 946 rfl) ?_
                                                                                refine ms_iadd (pc := 1365) S (m_dec eL_law 947 rfl) ?_
                                                                                refine ms_sld (pc := 1366) S hX g1 g366 (m_dec eL_law 948 rfl) ?_
                                                                                refine ms_aload_n (pc := 1367) S 0 rfl rfl (m_dec eL_law 949 rfl) ?_
                                                                                refine ms_iload_n (pc := 1368) S 3 rfl rfl (m_dec eL_law 950 rfl) ?_
                                                                                refine ms_iconst (pc := 1369) S (m_dec eL_law 951 rfl) ?_
                                                                                refine ms_iadd (pc := 1370) S (m_dec eL_law 952 rfl) ?_
                                                                                refine ms_sld (pc := 1371) S hX g1 g367 (m_dec eL_law 953 rfl) ?_
                                                                                refine ms_grd fun g371 => ?_
                                                                                refine ms_callVi (pc := 1372) S hF (vals := [m_i (xs (m_w (v3 + 1))), m_i (xs (m_w (v3 + 2))), m_i (xs (m_w (v3 + 3)))]) (st := [m_i r370]) (hc := vw_11) (hci := by decide) (hcy := rfl) (ht := g371) (hC := (k11_rivals _ _ v2 (xs (m_w (v3 + 1))) (xs (m_w (v3 + 2))) (xs (m_w (v3 + 3))) h369)) (hM := lm_L_172) (hfr := (Nat.le_trans (by decide) hFn)) (hstk := rfl) (hcat := Nat.le_of_ble_eq_true rfl) (hd := (m_dec eL_law 954 rfl)) (k1 := fun r373 h372 => ?_)
                                                                                refine ms_icmp_eq (pc := 1375) S (m_dec eL_law 955 rfl) rfl (fun q374 => ?_) (fun q374 => ?_)
                                                                                · refine ms_iinc (pc := 1512) S (L' := [(0, m_r v0), (1, m_r v1), (2, m_r v2), (3, m_i (v3 + 6))]) 3 rfl [1, 2, 3, 0] rfl (m_lt hN rfl) (m_dec eL_law 1066 rfl) ?_
                                                                                  refine ms_goto (pc := 1515) S (m_dec eL_law 1067 rfl) rfl ?_
                                                                                  exact ih (v3 + 6) h372
                                                                                · refine ms_iconst (pc := 1378) S (m_dec eL_law 956 rfl) ?_
                                                                                  exact ms_ret (pc := 1379) E (m_dec eL_law 957 rfl) rfl
                                                                              · refine ms_ite (fun q375 => ?_) (fun q375 => ?_)
                                                                                · refine ms_swIn (pc := 33) S (m_dec eL_law 21 rfl) 38 q375 (by decide) (by decide) rfl rfl ?_
                                                                                  refine ms_aload_n (pc := 1380) S 1 rfl rfl (m_dec eL_law 958 rfl) ?_
                                                                                  refine ms_aload_n (pc := 1381) S 0 rfl rfl (m_dec eL_law 959 rfl) ?_
                                                                                  refine ms_iload_n (pc := 1382) S 3 rfl rfl (m_dec eL_law 960 rfl) ?_
                                                                                  refine ms_iconst (pc := 1383) S (m_dec eL_law 961 rfl) ?_
                                                                                  refine ms_iadd (pc := 1384) S (m_dec eL_law 962 rfl) ?_
                                                                                  refine ms_grd fun g376 => ?_
                                                                                  refine ms_sld (pc := 1385) S hX g1 g376 (m_dec eL_law 963 rfl) ?_
                                                                                  refine ms_aload_n (pc := 1386) S 0 rfl rfl (m_dec eL_law 964 rfl) ?_
                                                                                  refine ms_iload_n (pc := 1387) S 3 rfl rfl (m_dec eL_law 965 rfl) ?_
                                                                                  refine ms_iconst (pc := 1388) S (m_dec eL_law 966 rfl) ?_
                                                                                  refine ms_iadd (pc := 1389) S (m_dec eL_law 967 rfl) ?_
                                                                                  refine ms_grd fun g377 => ?_
                                                                                  refine ms_sld (pc := 1390) S hX g1 g377 (m_dec eL_law 968 rfl) ?_
                                                                                  refine ms_grd fun g378 => ?_
                                                                                  refine ms_callVi (pc := 1391) S hF (vals := [m_i (xs (m_w (v3 + 1))), m_i (xs (m_w (v3 + 2)))]) (st := []) (hc := vw_10) (hci := by decide) (hcy := rfl) (ht := g378) (hC := (k10_remade _ _ v1 (xs (m_w (v3 + 1))) (xs (m_w (v3 + 2))) h)) (hM := lm_L_173) (hfr := (Nat.le_trans (by decide) hFn)) (hstk := rfl) (hcat := Nat.le_of_ble_eq_true rfl) (hd := (m_dec eL_law 969 rfl)) (k1 := fun r380 h379 => ?_)
                                                                                  refine ms_aload_n (pc := 1394) S 2 rfl rfl (m_dec eL_law 970 rfl) ?_
                                                                                  refine ms_aload_n (pc := 1395) S 0 rfl rfl (m_dec eL_law 971 rfl) ?_
                                                                                  refine ms_iload_n (pc := 1396) S 3 rfl rfl (m_dec eL_law 972 rfl) ?_
                                                                                  refine ms_iconst (pc := 1397) S (m_dec eL_law 973 rfl) ?_
                                                                                  refine ms_iadd (pc := 1398) S (m_dec eL_law 974 rfl) ?_
                                                                                  refine ms_sld (pc := 1399) S hX g1 g376 (m_dec eL_law 975 rfl) ?_
                                                                                  refine ms_aload_n (pc := 1400) S 0 rfl rfl (m_dec eL_law 976 rfl) ?_
                                                                                  refine ms_iload_n (pc := 1401) S 3 rfl rfl (m_dec eL_law 977 rfl) ?_
                                                                                  refine ms_iconst (pc := 1402) S (m_dec eL_law 978 rfl) ?_
                                                                                  refine ms_iadd (pc := 1403) S (m_dec eL_law 979 rfl) ?_
                                                                                  refine ms_sld (pc := 1404) S hX g1 g377 (m_dec eL_law 980 rfl) ?_
                                                                                  refine ms_grd fun g381 => ?_
                                                                                  refine ms_callVi (pc := 1405) S hF (vals := [m_i (xs (m_w (v3 + 1))), m_i (xs (m_w (v3 + 2)))]) (st := [m_i r380]) (hc := vw_11) (hci := by decide) (hcy := rfl) (ht := g381) (hC := (k11_remade _ _ v2 (xs (m_w (v3 + 1))) (xs (m_w (v3 + 2))) h379)) (hM := lm_L_176) (hfr := (Nat.le_trans (by decide) hFn)) (hstk := rfl) (hcat := Nat.le_of_ble_eq_true rfl) (hd := (m_dec eL_law 981 rfl)) (k1 := fun r383 h382 => ?_)
                                                                                  refine ms_icmp_eq (pc := 1408) S (m_dec eL_law 982 rfl) rfl (fun q384 => ?_) (fun q384 => ?_)
                                                                                  · refine ms_iinc (pc := 1512) S (L' := [(0, m_r v0), (1, m_r v1), (2, m_r v2), (3, m_i (v3 + 6))]) 3 rfl [1, 2, 3, 0] rfl (m_lt hN rfl) (m_dec eL_law 1066 rfl) ?_
                                                                                    refine ms_goto (pc := 1515) S (m_dec eL_law 1067 rfl) rfl ?_
                                                                                    exact ih (v3 + 6) h382
                                                                                  · refine ms_iconst (pc := 1411) S (m_dec eL_law 983 rfl) ?_
                                                                                    exact ms_ret (pc := 1412) E (m_dec eL_law 984 rfl) rfl
                                                                                · refine ms_ite (fun q385 => ?_) (fun q385 => ?_)
                                                                                  · refine ms_swIn (pc := 33) S (m_dec eL_law 21 rfl) 39 q385 (by decide) (by decide) rfl rfl ?_
                                                                                    refine ms_aload_n (pc := 1413) S 1 rfl rfl (m_dec eL_law 985 rfl) ?_
                                                                                    refine ms_aload_n (pc := 1414) S 0 rfl rfl (m_dec eL_law 986 rfl) ?_
                                                                                    refine ms_iload_n (pc := 1415) S 3 rfl rfl (m_dec eL_law 987 rfl) ?_
                                                                                    refine ms_iconst (pc := 1416) S (m_dec eL_law 988 rfl) ?_
                                                                                    refine ms_iadd (pc := 1417) S (m_dec eL_law 989 rfl) ?_
                                                                                    refine ms_grd fun g386 => ?_
                                                                                    refine ms_sld (pc := 1418) S hX g1 g386 (m_dec eL_law 990 rfl) ?_
                                                                                    refine ms_aload_n (pc := 1419) S 0 rfl rfl (m_dec eL_law 991 rfl) ?_
                                                                                    refine ms_iload_n (pc := 1420) S 3 rfl rfl (m_dec eL_law 992 rfl) ?_
                                                                                    refine ms_iconst (pc := 1421) S (m_dec eL_law 993 rfl) ?_
                                                                                    refine ms_iadd (pc := 1422) S (m_dec eL_law 994 rfl) ?_
                                                                                    refine ms_grd fun g387 => ?_
                                                                                    refine ms_sld (pc := 1423) S hX g1 g387 (m_dec eL_law 995 rfl) ?_
                                                                                    refine ms_aload_n (pc := 1424) S 0 rfl rfl (m_dec eL_law 996 rfl) ?_
                                                                                    refine ms_iload_n (pc := 1425) S 3 rfl rfl (m_dec eL_law 997 rfl) ?_
                                                                                    refine ms_iconst (pc := 1426) S (m_dec eL_law 998 rfl) ?_
                                                                                    refine ms_iadd (pc := 1427) S (m_dec eL_law 999 rfl) ?_
                                                                                    refine ms_grd fun g388 => ?_
                                                                                    refine ms_sld (pc := 1428) S hX g1 g388 (m_dec eL_law 1000 rfl) ?_
                                                                                    refine ms_grd fun g389 => ?_
                                                                                    refine ms_callVi (pc := 1429) S hF (vals := [m_i (xs (m_w (v3 + 1))), m_i (xs (m_w (v3 + 2))), m_i (xs (m_w (v3 + 3)))]) (st := []) (hc := vw_10) (hci := by decide) (hcy := rfl) (ht := g389) (hC := (k10_stretch _ _ v1 (xs (m_w (v3 + 1))) (xs (m_w (v3 + 2))) (xs (m_w (v3 + 3))) h)) (hM := lm_L_177) (hfr := (Nat.le_trans (by decide) hFn)) (hstk := rfl) (hcat := Nat.le_of_ble_eq_true rfl) (hd := (m_dec eL_law 1001 rfl)) (k1 := fun r391 h390 => ?_)
                                                                                    refine ms_aload_n (pc := 1432) S 2 rfl rfl (m_dec eL_law 1002 rfl) ?_
                                                                                    refine ms_aload_n (pc := 1433) S 0 rfl rfl (m_dec eL_law 1003 rfl) ?_
                                                                                    refine ms_iload_n (pc := 1434) S 3 rfl rfl (m_dec eL_law 1004 rfl) ?_
                                                                                    refine ms_iconst (pc := 1435) S (m_dec eL_law 1005 rfl) ?_
                                                                                    refine ms_iadd (pc := 1436) S (m_dec eL_law 1006 rfl) ?_
                                                                                    refine ms_sld (pc := 1437) S hX g1 g386 (m_dec eL_law 1007 rfl) ?_
                                                                                    refine ms_aload_n (pc := 1438) S 0 rfl rfl (m_dec eL_law 1008 rfl) ?_
                                                                                    refine ms_iload_n (pc := 1439) S 3 rfl rfl (m_dec eL_law 1009 rfl) ?_
                                                                                    refine ms_iconst (pc := 1440) S (m_dec eL_law 1010 rfl) ?_
                                                                                    refine ms_iadd (pc := 1441) S (m_dec eL_law 1011 rfl) ?_
                                                                                    refine ms_sld (pc := 1442) S hX g1 g387 (m_dec eL_law 1012 rfl) ?_
                                                                                    refine ms_aload_n (pc := 1443) S 0 rfl rfl (m_dec eL_law 1013 rfl) ?_
                                                                                    refine ms_iload_n (pc := 1444) S 3 rfl rfl (m_dec eL_law 1014 rfl) ?_
                                                                                    refine ms_iconst (pc := 1445) S (m_dec eL_law 1015 rfl) ?_
                                                                                    refine ms_iadd (pc := 1446) S (m_dec eL_law 1016 rfl) ?_
                                                                                    refine ms_sld (pc := 1447) S hX g1 g388 (m_dec eL_law 1017 rfl) ?_
                                                                                    refine ms_grd fun g392 => ?_
                                                                                    refine ms_callVi (pc := 1448) S hF (vals := [m_i (xs (m_w (v3 + 1))), m_i (xs (m_w (v3 + 2))), m_i (xs (m_w (v3 + 3)))]) (st := [m_i r391]) (hc := vw_11) (hci := by decide) (hcy := rfl) (ht := g392) (hC := (k11_stretch _ _ v2 (xs (m_w (v3 + 1))) (xs (m_w (v3 + 2))) (xs (m_w (v3 + 3))) h390)) (hM := lm_L_180) (hfr := (Nat.le_trans (by decide) hFn)) (hstk := rfl) (hcat := Nat.le_of_ble_eq_true rfl) (hd := (m_dec eL_law 1018 rfl)) (k1 := fun r394 h393 => ?_)
                                                                                    refine ms_icmp_eq (pc := 1451) S (m_dec eL_law 1019 rfl) rfl (fun q395 => ?_) (fun q395 => ?_)
                                                                                    · refine ms_iinc (pc := 1512) S (L' := [(0, m_r v0), (1, m_r v1), (2, m_r v2), (3, m_i (v3 + 6))]) 3 rfl [1, 2, 3, 0] rfl (m_lt hN rfl) (m_dec eL_law 1066 rfl) ?_
                                                                                      refine ms_goto (pc := 1515) S (m_dec eL_law 1067 rfl) rfl ?_
                                                                                      exact ih (v3 + 6) h393
                                                                                    · refine ms_iconst (pc := 1454) S (m_dec eL_law 1020 rfl) ?_
                                                                                      exact ms_ret (pc := 1455) E (m_dec eL_law 1021 rfl) rfl
                                                                                  · refine ms_ite (fun q396 => ?_) (fun q396 => ?_)
                                                                                    · refine ms_swIn (pc := 33) S (m_dec eL_law 21 rfl) 40 q396 (by decide) (by decide) rfl rfl ?_
                                                                                      refine ms_aload_n (pc := 1456) S 1 rfl rfl (m_dec eL_law 1022 rfl) ?_
                                                                                      refine ms_aload_n (pc := 1457) S 0 rfl rfl (m_dec eL_law 1023 rfl) ?_
                                                                                      refine ms_iload_n (pc := 1458) S 3 rfl rfl (m_dec eL_law 1024 rfl) ?_
                                                                                      refine ms_iconst (pc := 1459) S (m_dec eL_law 1025 rfl) ?_
                                                                                      refine ms_iadd (pc := 1460) S (m_dec eL_law 1026 rfl) ?_
                                                                                      refine ms_grd fun g397 => ?_
                                                                                      refine ms_sld (pc := 1461) S hX g1 g397 (m_dec eL_law 1027 rfl) ?_
                                                                                      refine ms_aload_n (pc := 1462) S 0 rfl rfl (m_dec eL_law 1028 rfl) ?_
                                                                                      refine ms_iload_n (pc := 1463) S 3 rfl rfl (m_dec eL_law 1029 rfl) ?_
                                                                                      refine ms_iconst (pc := 1464) S (m_dec eL_law 1030 rfl) ?_
                                                                                      refine ms_iadd (pc := 1465) S (m_dec eL_law 1031 rfl) ?_
                                                                                      refine ms_grd fun g398 => ?_
                                                                                      refine ms_sld (pc := 1466) S hX g1 g398 (m_dec eL_law 1032 rfl) ?_
                                                                                      refine ms_grd fun g399 => ?_
                                                                                      refine ms_callVi (pc := 1467) S hF (vals := [m_i (xs (m_w (v3 + 1))), m_i (xs (m_w (v3 + 2)))]) (st := []) (hc := vw_10) (hci := by decide) (hcy := rfl) (ht := g399) (hC := (k10_unfound _ _ v1 (xs (m_w (v3 + 1))) (xs (m_w (v3 + 2))) h)) (hM := lm_L_181) (hfr := (Nat.le_trans (by decide) hFn)) (hstk := rfl) (hcat := Nat.le_of_ble_eq_true rfl) (hd := (m_dec eL_law 1033 rfl)) (k1 := fun r401 h400 => ?_)
                                                                                      refine ms_aload_n (pc := 1470) S 2 rfl rfl (m_dec eL_law 1034 rfl) ?_
                                                                                      refine ms_aload_n (pc := 1471) S 0 rfl rfl (m_dec eL_law 1035 rfl) ?_
                                                                                      refine ms_iload_n (pc := 1472) S 3 rfl rfl (m_dec eL_law 1036 rfl) ?_
                                                                                      refine ms_iconst (pc := 1473) S (m_dec eL_law 1037 rfl) ?_
                                                                                      refine ms_iadd (pc := 1474) S (m_dec eL_law 1038 rfl) ?_
                                                                                      refine ms_sld (pc := 1475) S hX g1 g397 (m_dec eL_law 1039 rfl) ?_
                                                                                      refine ms_aload_n (pc := 1476) S 0 rfl rfl (m_dec eL_law 1040 rfl) ?_
                                                                                      refine ms_iload_n (pc := 1477) S 3 rfl rfl (m_dec eL_law 1041 rfl) ?_
                                                                                      refine ms_iconst (pc := 1478) S (m_dec eL_law 1042 rfl) ?_
                                                                                      refine ms_iadd (pc := 1479) S (m_dec eL_law 1043 rfl) ?_
                                                                                      refine ms_sld (pc := 1480) S hX g1 g398 (m_dec eL_law 1044 rfl) ?_
                                                                                      refine ms_grd fun g402 => ?_
                                                                                      refine ms_callVi (pc := 1481) S hF (vals := [m_i (xs (m_w (v3 + 1))), m_i (xs (m_w (v3 + 2)))]) (st := [m_i r401]) (hc := vw_11) (hci := by decide) (hcy := rfl) (ht := g402) (hC := (k11_unfound _ _ v2 (xs (m_w (v3 + 1))) (xs (m_w (v3 + 2))) h400)) (hM := lm_L_184) (hfr := (Nat.le_trans (by decide) hFn)) (hstk := rfl) (hcat := Nat.le_of_ble_eq_true rfl) (hd := (m_dec eL_law 1045 rfl)) (k1 := fun r404 h403 => ?_)
                                                                                      refine ms_icmp_eq (pc := 1484) S (m_dec eL_law 1046 rfl) rfl (fun q405 => ?_) (fun q405 => ?_)
                                                                                      · refine ms_iinc (pc := 1512) S (L' := [(0, m_r v0), (1, m_r v1), (2, m_r v2), (3, m_i (v3 + 6))]) 3 rfl [1, 2, 3, 0] rfl (m_lt hN rfl) (m_dec eL_law 1066 rfl) ?_
                                                                                        refine ms_goto (pc := 1515) S (m_dec eL_law 1067 rfl) rfl ?_
                                                                                        exact ih (v3 + 6) h403
                                                                                      · refine ms_iconst (pc := 1487) S (m_dec eL_law 1047 rfl) ?_
                                                                                        exact ms_ret (pc := 1488) E (m_dec eL_law 1048 rfl) rfl
                                                                                    · refine ms_ite (fun q406 => ?_) (fun q406 => ?_)
                                                                                      · refine ms_swIn (pc := 33) S (m_dec eL_law 21 rfl) 41 q406 (by decide) (by decide) rfl rfl ?_
                                                                                        refine ms_aload_n (pc := 1489) S 1 rfl rfl (m_dec eL_law 1049 rfl) ?_
                                                                                        refine ms_aload_n (pc := 1490) S 0 rfl rfl (m_dec eL_law 1050 rfl) ?_
                                                                                        refine ms_iload_n (pc := 1491) S 3 rfl rfl (m_dec eL_law 1051 rfl) ?_
                                                                                        refine ms_iconst (pc := 1492) S (m_dec eL_law 1052 rfl) ?_
                                                                                        refine ms_iadd (pc := 1493) S (m_dec eL_law 1053 rfl) ?_
                                                                                        refine ms_grd fun g407 => ?_
                                                                                        refine ms_sld (pc := 1494) S hX g1 g407 (m_dec eL_law 1054 rfl) ?_
                                                                                        refine ms_grd fun g408 => ?_
                                                                                        refine ms_callVi (pc := 1495) S hF (vals := [m_i (xs (m_w (v3 + 1)))]) (st := []) (hc := vw_10) (hci := by decide) (hcy := rfl) (ht := g408) (hC := (k10_count _ _ v1 (xs (m_w (v3 + 1))) h)) (hM := lm_L_185) (hfr := (Nat.le_trans (by decide) hFn)) (hstk := rfl) (hcat := Nat.le_of_ble_eq_true rfl) (hd := (m_dec eL_law 1055 rfl)) (k1 := fun r410 h409 => ?_)
                                                                                        refine ms_aload_n (pc := 1498) S 2 rfl rfl (m_dec eL_law 1056 rfl) ?_
                                                                                        refine ms_aload_n (pc := 1499) S 0 rfl rfl (m_dec eL_law 1057 rfl) ?_
                                                                                        refine ms_iload_n (pc := 1500) S 3 rfl rfl (m_dec eL_law 1058 rfl) ?_
                                                                                        refine ms_iconst (pc := 1501) S (m_dec eL_law 1059 rfl) ?_
                                                                                        refine ms_iadd (pc := 1502) S (m_dec eL_law 1060 rfl) ?_
                                                                                        refine ms_sld (pc := 1503) S hX g1 g407 (m_dec eL_law 1061 rfl) ?_
                                                                                        refine ms_grd fun g411 => ?_
                                                                                        refine ms_callVi (pc := 1504) S hF (vals := [m_i (xs (m_w (v3 + 1)))]) (st := [m_i r410]) (hc := vw_11) (hci := by decide) (hcy := rfl) (ht := g411) (hC := (k11_count _ _ v2 (xs (m_w (v3 + 1))) h409)) (hM := lm_L_188) (hfr := (Nat.le_trans (by decide) hFn)) (hstk := rfl) (hcat := Nat.le_of_ble_eq_true rfl) (hd := (m_dec eL_law 1062 rfl)) (k1 := fun r413 h412 => ?_)
                                                                                        refine ms_icmp_eq (pc := 1507) S (m_dec eL_law 1063 rfl) rfl (fun q414 => ?_) (fun q414 => ?_)
                                                                                        · refine ms_iinc (pc := 1512) S (L' := [(0, m_r v0), (1, m_r v1), (2, m_r v2), (3, m_i (v3 + 6))]) 3 rfl [1, 2, 3, 0] rfl (m_lt hN rfl) (m_dec eL_law 1066 rfl) ?_
                                                                                          refine ms_goto (pc := 1515) S (m_dec eL_law 1067 rfl) rfl ?_
                                                                                          exact ih (v3 + 6) h412
                                                                                        · refine ms_iconst (pc := 1510) S (m_dec eL_law 1064 rfl) ?_
                                                                                          exact ms_ret (pc := 1511) E (m_dec eL_law 1065 rfl) rfl
                                                                                      · refine ms_swOut (pc := 33) (a := (m_and (xs (m_w v3)) 63)) S (m_dec eL_law 21 rfl) (by omega) rfl ?_
                                                                                        refine ms_iinc (pc := 1512) S (L' := [(0, m_r v0), (1, m_r v1), (2, m_r v2), (3, m_i (v3 + 6))]) 3 rfl [1, 2, 3, 0] rfl (m_lt hN rfl) (m_dec eL_law 1066 rfl) ?_
                                                                                        refine ms_goto (pc := 1515) S (m_dec eL_law 1067 rfl) rfl ?_
                                                                                        exact ih (v3 + 6) h
set_option maxHeartbeats 8000000 in
set_option maxRecDepth 100000 in
theorem sL_law {Y : m_Y Bool} (S : m_Std Y RL cL_law) (E : m_End Y cL_law .ireturn (fun r => [m_i (m_b2i r)])) {F : Nat} (hF : m_Rm Y F) (hFn : 18 ≤ F) (hN : Y.2.2.2.1 = 4) {xn : Int} {xs : Int → Int} (hX : m_scr Y xn xs) (v0 : Int) (h : m_H) : m_Sim Y 0 [(0, m_r v0)] [] h (tL_law xn xs v0 h) := by
  unfold tL_law
  refine ms_new (pc := 0) S ln_L_7 rfl (m_dec eL_law 0 rfl) (fun h1 => ?_)
  refine ms_dup (pc := 3) S rfl (m_dec eL_law 1 rfl) ?_
  refine ms_grd fun g2 => ?_
  refine ms_callIv (pc := 4) S hF (vals := []) (st := [m_r (m_n h)]) (ht := g2) (hC := (k10_init _ _ (m_n h) h1)) (hM := lm_L_9) (hfr := (Nat.le_trans (by decide) hFn)) (hstk := rfl) (hcat := Nat.le_of_ble_eq_true rfl) (hd := (m_dec eL_law 2 rfl)) (k1 := fun h3 => ?_)
  refine ms_nm (st := fun x5 => [m_r x5]) fun x5 => ?_
  refine ms_astore_n (pc := 7) S (L' := [(0, m_r v0), (1, m_r x5)]) [1, 0] rfl rfl (m_lt hN rfl) (m_dec eL_law 3 rfl) ?_
  refine ms_new (pc := 8) S ln_L_10 rfl (m_dec eL_law 4 rfl) (fun h6 => ?_)
  refine ms_dup (pc := 11) S rfl (m_dec eL_law 5 rfl) ?_
  refine ms_grd fun g7 => ?_
  refine ms_callIv (pc := 12) S hF (vals := []) (st := [m_r (m_n h3)]) (ht := g7) (hC := (k11_init _ _ (m_n h3) h6)) (hM := lm_L_12) (hfr := (Nat.le_trans (by decide) hFn)) (hstk := rfl) (hcat := Nat.le_of_ble_eq_true rfl) (hd := (m_dec eL_law 6 rfl)) (k1 := fun h8 => ?_)
  refine ms_nm (st := fun x10 => [m_r x10]) fun x10 => ?_
  refine ms_astore_n (pc := 15) S (L' := [(0, m_r v0), (1, m_r x5), (2, m_r x10)]) [1, 2, 0] rfl rfl (m_lt hN rfl) (m_dec eL_law 7 rfl) ?_
  refine ms_iconst (pc := 16) S (m_dec eL_law 8 rfl) ?_
  refine ms_istore_n (pc := 17) S (L' := [(0, m_r v0), (1, m_r x5), (2, m_r x10), (3, m_i 0)]) [1, 2, 3, 0] rfl rfl (m_lt hN rfl) (m_dec eL_law 9 rfl) ?_
  exact sL_law_c18 S E hF hFn hN hX v0 x5 x10 0 h8
