/-! THE LAW: its instructions -/
def lDk (q : Nat × Instr × Nat) : Bool := decide (decode code q.1 = .ok (q.2.1, q.2.2))
theorem ld {ch : List (Nat × Instr × Nat)} (h : ch.all lDk = true) (i : Nat) {en : Nat × Instr × Nat} (he : ch[i]? = some en) : decode code en.1 = .ok (en.2.1, en.2.2) := of_decide_eq_true (List.all_eq_true.mp h en (List.mem_of_getElem? he))
def lC0 : List (Nat × Instr × Nat) := [(0, .new 7, 3), (3, .dup, 1), (4, .invokespecial 9, 3), (7, .astore_n 1, 1), (8, .new 10, 3), (11, .dup, 1), (12, .invokespecial 12, 3), (15, .astore_n 2, 1), (16, .iconst 0, 1), (17, .istore_n 3, 1), (18, .iload_n 3, 1), (19, .aload_n 0, 1), (20, .arraylength, 1), (21, .bipush 6, 2), (23, .isub, 1), (24, .if_icmp .gt 1173, 3), (27, .aload_n 0, 1), (28, .iload_n 3, 1), (29, .iaload, 1), (30, .bipush 63, 2), (32, .iand, 1), (33, .tableswitch 1158 0 34 #[155, 218, 241, 254, 267, 300, 333, 366, 415, 438, 461, 510, 533, 546, 579, 622, 645, 668, 691, 714, 747, 780, 803, 816, 839, 872, 905, 938, 971, 1020, 1033, 1066, 1089, 1112, 1135], 155)]
theorem lc0 : lC0.all lDk = true := by decide +kernel
def lC2 : List (Nat × Instr × Nat) := [(188, .aload_n 1, 1), (189, .aload_n 0, 1), (190, .iload_n 3, 1), (191, .iconst 1, 1)]
theorem lc2 : lC2.all lDk = true := by decide +kernel
def lC3 : List (Nat × Instr × Nat) := [(192, .iadd, 1), (193, .iaload, 1), (194, .aload_n 0, 1), (195, .iload_n 3, 1), (196, .iconst 2, 1), (197, .iadd, 1), (198, .iaload, 1), (199, .aload_n 0, 1), (200, .iload_n 3, 1), (201, .iconst 3, 1), (202, .iadd, 1), (203, .iaload, 1), (204, .aload_n 0, 1), (205, .iload_n 3, 1), (206, .iconst 4, 1), (207, .iadd, 1), (208, .iaload, 1), (209, .aload_n 0, 1), (210, .iload_n 3, 1), (211, .iconst 5, 1), (212, .iadd, 1), (213, .iaload, 1), (214, .invokevirtual 13, 3), (217, .pop, 1), (218, .aload_n 2, 1), (219, .aload_n 0, 1), (220, .iload_n 3, 1), (221, .iconst 1, 1), (222, .iadd, 1), (223, .iaload, 1), (224, .aload_n 0, 1), (225, .iload_n 3, 1), (226, .iconst 2, 1), (227, .iadd, 1), (228, .iaload, 1), (229, .aload_n 0, 1), (230, .iload_n 3, 1), (231, .iconst 3, 1), (232, .iadd, 1), (233, .iaload, 1), (234, .aload_n 0, 1), (235, .iload_n 3, 1), (236, .iconst 4, 1), (237, .iadd, 1), (238, .iaload, 1), (239, .aload_n 0, 1), (240, .iload_n 3, 1), (241, .iconst 5, 1), (242, .iadd, 1), (243, .iaload, 1), (244, .invokevirtual 17, 3), (247, .pop, 1), (248, .goto 943, 3), (251, .aload_n 1, 1), (252, .aload_n 0, 1), (253, .iload_n 3, 1), (254, .iconst 1, 1), (255, .iadd, 1)]
theorem lc3 : lC3.all lDk = true := by decide +kernel
def lC4 : List (Nat × Instr × Nat) := [(256, .iaload, 1), (257, .invokevirtual 18, 3), (260, .pop, 1), (261, .aload_n 2, 1), (262, .aload_n 0, 1), (263, .iload_n 3, 1), (264, .iconst 1, 1), (265, .iadd, 1), (266, .iaload, 1), (267, .invokevirtual 22, 3), (270, .pop, 1), (271, .goto 920, 3), (274, .aload_n 1, 1), (275, .invokevirtual 23, 3), (278, .pop, 1), (279, .aload_n 2, 1), (280, .invokevirtual 27, 3), (283, .pop, 1), (284, .goto 907, 3), (287, .aload_n 1, 1), (288, .invokevirtual 28, 3), (291, .pop, 1), (292, .aload_n 2, 1), (293, .invokevirtual 31, 3), (296, .pop, 1), (297, .goto 894, 3), (300, .aload_n 1, 1), (301, .aload_n 0, 1), (302, .iload_n 3, 1), (303, .iconst 1, 1), (304, .iadd, 1), (305, .iaload, 1), (306, .aload_n 0, 1), (307, .iload_n 3, 1), (308, .iconst 2, 1), (309, .iadd, 1), (310, .iaload, 1), (311, .invokevirtual 32, 3), (314, .pop, 1), (315, .aload_n 2, 1), (316, .aload_n 0, 1), (317, .iload_n 3, 1), (318, .iconst 1, 1), (319, .iadd, 1)]
theorem lc4 : lC4.all lDk = true := by decide +kernel
def lC5 : List (Nat × Instr × Nat) := [(320, .iaload, 1), (321, .aload_n 0, 1), (322, .iload_n 3, 1), (323, .iconst 2, 1), (324, .iadd, 1), (325, .iaload, 1), (326, .invokevirtual 36, 3), (329, .pop, 1), (330, .goto 861, 3), (333, .aload_n 1, 1), (334, .aload_n 0, 1), (335, .iload_n 3, 1), (336, .iconst 1, 1), (337, .iadd, 1), (338, .iaload, 1), (339, .aload_n 0, 1), (340, .iload_n 3, 1), (341, .iconst 2, 1), (342, .iadd, 1), (343, .iaload, 1), (344, .invokevirtual 37, 3), (347, .pop, 1), (348, .aload_n 2, 1), (349, .aload_n 0, 1), (350, .iload_n 3, 1), (351, .iconst 1, 1), (352, .iadd, 1), (353, .iaload, 1), (354, .aload_n 0, 1), (355, .iload_n 3, 1), (356, .iconst 2, 1), (357, .iadd, 1), (358, .iaload, 1), (359, .invokevirtual 40, 3), (362, .pop, 1), (363, .goto 828, 3), (366, .aload_n 1, 1), (367, .aload_n 0, 1), (368, .iload_n 3, 1), (369, .iconst 1, 1), (370, .iadd, 1), (371, .iaload, 1), (372, .aload_n 0, 1), (373, .iload_n 3, 1), (374, .iconst 2, 1), (375, .iadd, 1), (376, .iaload, 1), (377, .invokevirtual 41, 3), (380, .pop, 1), (381, .aload_n 2, 1), (382, .aload_n 0, 1), (383, .iload_n 3, 1)]
theorem lc5 : lC5.all lDk = true := by decide +kernel
def lC6 : List (Nat × Instr × Nat) := [(384, .iconst 1, 1), (385, .iadd, 1), (386, .iaload, 1), (387, .aload_n 0, 1), (388, .iload_n 3, 1), (389, .iconst 2, 1), (390, .iadd, 1), (391, .iaload, 1), (392, .invokevirtual 44, 3), (395, .pop, 1), (396, .goto 795, 3), (399, .aload_n 1, 1), (400, .aload_n 0, 1), (401, .iload_n 3, 1), (402, .iconst 1, 1), (403, .iadd, 1), (404, .iaload, 1), (405, .aload_n 0, 1), (406, .iload_n 3, 1), (407, .iconst 2, 1), (408, .iadd, 1), (409, .iaload, 1), (410, .ifCond .eq 7, 3), (413, .iconst 1, 1), (414, .goto 4, 3), (417, .iconst 0, 1), (418, .invokevirtual 45, 3), (421, .pop, 1), (422, .aload_n 2, 1), (423, .aload_n 0, 1), (424, .iload_n 3, 1), (425, .iconst 1, 1), (426, .iadd, 1), (427, .iaload, 1), (428, .aload_n 0, 1), (429, .iload_n 3, 1), (430, .iconst 2, 1), (431, .iadd, 1), (432, .iaload, 1), (433, .ifCond .eq 7, 3), (436, .iconst 1, 1), (437, .goto 4, 3), (440, .iconst 0, 1), (441, .invokevirtual 49, 3), (444, .pop, 1), (445, .goto 746, 3)]
theorem lc6 : lC6.all lDk = true := by decide +kernel
def lC7 : List (Nat × Instr × Nat) := [(448, .aload_n 1, 1), (449, .aload_n 0, 1), (450, .iload_n 3, 1), (451, .iconst 1, 1), (452, .iadd, 1), (453, .iaload, 1), (454, .invokevirtual 50, 3), (457, .pop, 1), (458, .aload_n 2, 1), (459, .aload_n 0, 1), (460, .iload_n 3, 1), (461, .iconst 1, 1), (462, .iadd, 1), (463, .iaload, 1), (464, .invokevirtual 53, 3), (467, .pop, 1), (468, .goto 723, 3), (471, .aload_n 1, 1), (472, .aload_n 0, 1), (473, .iload_n 3, 1), (474, .iconst 1, 1), (475, .iadd, 1), (476, .iaload, 1), (477, .invokevirtual 54, 3), (480, .pop, 1), (481, .aload_n 2, 1), (482, .aload_n 0, 1), (483, .iload_n 3, 1), (484, .iconst 1, 1), (485, .iadd, 1), (486, .iaload, 1), (487, .invokevirtual 57, 3), (490, .pop, 1), (491, .goto 700, 3), (494, .aload_n 1, 1), (495, .aload_n 0, 1), (496, .iload_n 3, 1), (497, .iconst 1, 1), (498, .iadd, 1), (499, .iaload, 1), (500, .aload_n 0, 1), (501, .iload_n 3, 1), (502, .iconst 2, 1), (503, .iadd, 1), (504, .iaload, 1), (505, .ifCond .eq 7, 3), (508, .iconst 1, 1), (509, .goto 4, 3)]
theorem lc7 : lC7.all lDk = true := by decide +kernel
def lC8 : List (Nat × Instr × Nat) := [(512, .iconst 0, 1), (513, .invokevirtual 58, 3), (516, .pop, 1), (517, .aload_n 2, 1), (518, .aload_n 0, 1), (519, .iload_n 3, 1), (520, .iconst 1, 1), (521, .iadd, 1), (522, .iaload, 1), (523, .aload_n 0, 1), (524, .iload_n 3, 1), (525, .iconst 2, 1), (526, .iadd, 1), (527, .iaload, 1), (528, .ifCond .eq 7, 3), (531, .iconst 1, 1), (532, .goto 4, 3), (535, .iconst 0, 1), (536, .invokevirtual 61, 3), (539, .pop, 1), (540, .goto 651, 3), (543, .aload_n 1, 1), (544, .aload_n 0, 1), (545, .iload_n 3, 1), (546, .iconst 1, 1), (547, .iadd, 1), (548, .iaload, 1), (549, .invokevirtual 62, 3), (552, .aload_n 2, 1), (553, .aload_n 0, 1), (554, .iload_n 3, 1), (555, .iconst 1, 1), (556, .iadd, 1), (557, .iaload, 1), (558, .invokevirtual 65, 3), (561, .if_icmp .eq 630, 3), (564, .iconst 0, 1), (565, .ireturn, 1), (566, .aload_n 1, 1), (567, .invokevirtual 66, 3), (570, .pop, 1), (571, .aload_n 2, 1), (572, .invokevirtual 70, 3), (575, .pop, 1)]
theorem lc8 : lC8.all lDk = true := by decide +kernel
def lC9 : List (Nat × Instr × Nat) := [(576, .goto 615, 3), (579, .aload_n 1, 1), (580, .aload_n 0, 1), (581, .iload_n 3, 1), (582, .iconst 1, 1), (583, .iadd, 1), (584, .iaload, 1), (585, .aload_n 0, 1), (586, .iload_n 3, 1), (587, .iconst 2, 1), (588, .iadd, 1), (589, .iaload, 1), (590, .invokevirtual 71, 3), (593, .pop, 1), (594, .aload_n 2, 1), (595, .aload_n 0, 1), (596, .iload_n 3, 1), (597, .iconst 1, 1), (598, .iadd, 1), (599, .iaload, 1), (600, .aload_n 0, 1), (601, .iload_n 3, 1), (602, .iconst 2, 1), (603, .iadd, 1), (604, .iaload, 1), (605, .invokevirtual 74, 3), (608, .pop, 1), (609, .goto 582, 3), (612, .aload_n 1, 1), (613, .aload_n 0, 1), (614, .iload_n 3, 1), (615, .iconst 1, 1), (616, .iadd, 1), (617, .iaload, 1), (618, .aload_n 0, 1), (619, .iload_n 3, 1), (620, .iconst 2, 1), (621, .iadd, 1), (622, .iaload, 1), (623, .aload_n 0, 1), (624, .iload_n 3, 1), (625, .iconst 3, 1), (626, .iadd, 1), (627, .iaload, 1), (628, .invokevirtual 75, 3), (631, .pop, 1), (632, .aload_n 2, 1), (633, .aload_n 0, 1), (634, .iload_n 3, 1), (635, .iconst 1, 1), (636, .iadd, 1), (637, .iaload, 1), (638, .aload_n 0, 1), (639, .iload_n 3, 1)]
theorem lc9 : lC9.all lDk = true := by decide +kernel
def lC10 : List (Nat × Instr × Nat) := [(640, .iconst 2, 1), (641, .iadd, 1), (642, .iaload, 1), (643, .aload_n 0, 1), (644, .iload_n 3, 1), (645, .iconst 3, 1), (646, .iadd, 1), (647, .iaload, 1), (648, .invokevirtual 79, 3), (651, .pop, 1), (652, .goto 539, 3), (655, .aload_n 1, 1), (656, .aload_n 0, 1), (657, .iload_n 3, 1), (658, .iconst 1, 1), (659, .iadd, 1), (660, .iaload, 1), (661, .invokevirtual 80, 3), (664, .pop, 1), (665, .aload_n 2, 1), (666, .aload_n 0, 1), (667, .iload_n 3, 1), (668, .iconst 1, 1), (669, .iadd, 1), (670, .iaload, 1), (671, .invokevirtual 83, 3), (674, .pop, 1), (675, .goto 516, 3), (678, .aload_n 1, 1), (679, .aload_n 0, 1), (680, .iload_n 3, 1), (681, .iconst 1, 1), (682, .iadd, 1), (683, .iaload, 1), (684, .invokevirtual 84, 3), (687, .pop, 1), (688, .aload_n 2, 1), (689, .aload_n 0, 1), (690, .iload_n 3, 1), (691, .iconst 1, 1), (692, .iadd, 1), (693, .iaload, 1), (694, .invokevirtual 87, 3), (697, .pop, 1), (698, .goto 493, 3), (701, .aload_n 1, 1), (702, .aload_n 0, 1), (703, .iload_n 3, 1)]
theorem lc10 : lC10.all lDk = true := by decide +kernel
def lC11 : List (Nat × Instr × Nat) := [(704, .iconst 1, 1), (705, .iadd, 1), (706, .iaload, 1), (707, .invokevirtual 88, 3), (710, .pop, 1), (711, .aload_n 2, 1), (712, .aload_n 0, 1), (713, .iload_n 3, 1), (714, .iconst 1, 1), (715, .iadd, 1), (716, .iaload, 1), (717, .invokevirtual 91, 3), (720, .pop, 1), (721, .goto 470, 3), (724, .aload_n 1, 1), (725, .aload_n 0, 1), (726, .iload_n 3, 1), (727, .iconst 1, 1), (728, .iadd, 1), (729, .iaload, 1), (730, .invokevirtual 92, 3), (733, .pop, 1), (734, .aload_n 2, 1), (735, .aload_n 0, 1), (736, .iload_n 3, 1), (737, .iconst 1, 1), (738, .iadd, 1), (739, .iaload, 1), (740, .invokevirtual 95, 3), (743, .pop, 1), (744, .goto 447, 3), (747, .aload_n 1, 1), (748, .aload_n 0, 1), (749, .iload_n 3, 1), (750, .iconst 1, 1), (751, .iadd, 1), (752, .iaload, 1), (753, .aload_n 0, 1), (754, .iload_n 3, 1), (755, .iconst 2, 1), (756, .iadd, 1), (757, .iaload, 1), (758, .invokevirtual 96, 3), (761, .pop, 1), (762, .aload_n 2, 1), (763, .aload_n 0, 1), (764, .iload_n 3, 1), (765, .iconst 1, 1), (766, .iadd, 1), (767, .iaload, 1)]
theorem lc11 : lC11.all lDk = true := by decide +kernel
def lC12 : List (Nat × Instr × Nat) := [(768, .aload_n 0, 1), (769, .iload_n 3, 1), (770, .iconst 2, 1), (771, .iadd, 1), (772, .iaload, 1), (773, .invokevirtual 99, 3), (776, .pop, 1), (777, .goto 414, 3), (780, .aload_n 1, 1), (781, .aload_n 0, 1), (782, .iload_n 3, 1), (783, .iconst 1, 1), (784, .iadd, 1), (785, .iaload, 1), (786, .aload_n 0, 1), (787, .iload_n 3, 1), (788, .iconst 2, 1), (789, .iadd, 1), (790, .iaload, 1), (791, .invokevirtual 100, 3), (794, .pop, 1), (795, .aload_n 2, 1), (796, .aload_n 0, 1), (797, .iload_n 3, 1), (798, .iconst 1, 1), (799, .iadd, 1), (800, .iaload, 1), (801, .aload_n 0, 1), (802, .iload_n 3, 1), (803, .iconst 2, 1), (804, .iadd, 1), (805, .iaload, 1), (806, .invokevirtual 103, 3), (809, .pop, 1), (810, .goto 381, 3), (813, .aload_n 1, 1), (814, .aload_n 0, 1), (815, .iload_n 3, 1), (816, .iconst 1, 1), (817, .iadd, 1), (818, .iaload, 1), (819, .invokevirtual 104, 3), (822, .pop, 1), (823, .aload_n 2, 1), (824, .aload_n 0, 1), (825, .iload_n 3, 1), (826, .iconst 1, 1), (827, .iadd, 1), (828, .iaload, 1), (829, .invokevirtual 107, 3)]
theorem lc12 : lC12.all lDk = true := by decide +kernel
def lC13 : List (Nat × Instr × Nat) := [(832, .pop, 1), (833, .goto 358, 3), (836, .aload_n 1, 1), (837, .invokevirtual 108, 3), (840, .pop, 1), (841, .aload_n 2, 1), (842, .invokevirtual 111, 3), (845, .pop, 1), (846, .goto 345, 3), (849, .aload_n 1, 1), (850, .aload_n 0, 1), (851, .iload_n 3, 1), (852, .iconst 1, 1), (853, .iadd, 1), (854, .iaload, 1), (855, .invokevirtual 112, 3), (858, .pop, 1), (859, .aload_n 2, 1), (860, .aload_n 0, 1), (861, .iload_n 3, 1), (862, .iconst 1, 1), (863, .iadd, 1), (864, .iaload, 1), (865, .invokevirtual 115, 3), (868, .pop, 1), (869, .goto 322, 3), (872, .aload_n 1, 1), (873, .aload_n 0, 1), (874, .iload_n 3, 1), (875, .iconst 1, 1), (876, .iadd, 1), (877, .iaload, 1), (878, .aload_n 0, 1), (879, .iload_n 3, 1), (880, .iconst 2, 1), (881, .iadd, 1), (882, .iaload, 1), (883, .invokevirtual 116, 3), (886, .pop, 1), (887, .aload_n 2, 1), (888, .aload_n 0, 1), (889, .iload_n 3, 1), (890, .iconst 1, 1), (891, .iadd, 1), (892, .iaload, 1), (893, .aload_n 0, 1), (894, .iload_n 3, 1), (895, .iconst 2, 1)]
theorem lc13 : lC13.all lDk = true := by decide +kernel
def lC14 : List (Nat × Instr × Nat) := [(896, .iadd, 1), (897, .iaload, 1), (898, .invokevirtual 119, 3), (901, .pop, 1), (902, .goto 289, 3), (905, .aload_n 1, 1), (906, .aload_n 0, 1), (907, .iload_n 3, 1), (908, .iconst 1, 1), (909, .iadd, 1), (910, .iaload, 1), (911, .aload_n 0, 1), (912, .iload_n 3, 1), (913, .iconst 2, 1), (914, .iadd, 1), (915, .iaload, 1), (916, .invokevirtual 120, 3), (919, .pop, 1), (920, .aload_n 2, 1), (921, .aload_n 0, 1), (922, .iload_n 3, 1), (923, .iconst 1, 1), (924, .iadd, 1), (925, .iaload, 1), (926, .aload_n 0, 1), (927, .iload_n 3, 1), (928, .iconst 2, 1), (929, .iadd, 1), (930, .iaload, 1), (931, .invokevirtual 123, 3), (934, .pop, 1), (935, .goto 256, 3), (938, .aload_n 1, 1), (939, .aload_n 0, 1), (940, .iload_n 3, 1), (941, .iconst 1, 1), (942, .iadd, 1), (943, .iaload, 1), (944, .aload_n 0, 1), (945, .iload_n 3, 1), (946, .iconst 2, 1), (947, .iadd, 1), (948, .iaload, 1), (949, .invokevirtual 124, 3), (952, .pop, 1), (953, .aload_n 2, 1), (954, .aload_n 0, 1), (955, .iload_n 3, 1), (956, .iconst 1, 1), (957, .iadd, 1), (958, .iaload, 1), (959, .aload_n 0, 1)]
theorem lc14 : lC14.all lDk = true := by decide +kernel
def lC15 : List (Nat × Instr × Nat) := [(960, .iload_n 3, 1), (961, .iconst 2, 1), (962, .iadd, 1), (963, .iaload, 1), (964, .invokevirtual 127, 3), (967, .pop, 1), (968, .goto 223, 3), (971, .aload_n 1, 1), (972, .aload_n 0, 1), (973, .iload_n 3, 1), (974, .iconst 1, 1), (975, .iadd, 1), (976, .iaload, 1), (977, .aload_n 0, 1), (978, .iload_n 3, 1), (979, .iconst 2, 1), (980, .iadd, 1), (981, .iaload, 1), (982, .invokevirtual 128, 3), (985, .pop, 1), (986, .aload_n 2, 1), (987, .aload_n 0, 1), (988, .iload_n 3, 1), (989, .iconst 1, 1), (990, .iadd, 1), (991, .iaload, 1), (992, .aload_n 0, 1), (993, .iload_n 3, 1), (994, .iconst 2, 1), (995, .iadd, 1), (996, .iaload, 1), (997, .invokevirtual 131, 3), (1000, .pop, 1), (1001, .goto 190, 3), (1004, .aload_n 1, 1), (1005, .aload_n 0, 1), (1006, .iload_n 3, 1), (1007, .iconst 1, 1), (1008, .iadd, 1), (1009, .iaload, 1), (1010, .aload_n 0, 1), (1011, .iload_n 3, 1), (1012, .iconst 2, 1), (1013, .iadd, 1), (1014, .iaload, 1), (1015, .ifCond .eq 7, 3), (1018, .iconst 1, 1), (1019, .goto 4, 3), (1022, .iconst 0, 1), (1023, .invokevirtual 132, 3)]
theorem lc15 : lC15.all lDk = true := by decide +kernel
def lC16 : List (Nat × Instr × Nat) := [(1026, .pop, 1), (1027, .aload_n 2, 1), (1028, .aload_n 0, 1), (1029, .iload_n 3, 1), (1030, .iconst 1, 1), (1031, .iadd, 1), (1032, .iaload, 1), (1033, .aload_n 0, 1), (1034, .iload_n 3, 1), (1035, .iconst 2, 1), (1036, .iadd, 1), (1037, .iaload, 1), (1038, .ifCond .eq 7, 3), (1041, .iconst 1, 1), (1042, .goto 4, 3), (1045, .iconst 0, 1), (1046, .invokevirtual 136, 3), (1049, .pop, 1), (1050, .goto 141, 3), (1053, .aload_n 1, 1), (1054, .invokevirtual 137, 3), (1057, .pop, 1), (1058, .aload_n 2, 1), (1059, .invokevirtual 140, 3), (1062, .pop, 1), (1063, .goto 128, 3), (1066, .aload_n 1, 1), (1067, .aload_n 0, 1), (1068, .iload_n 3, 1), (1069, .iconst 1, 1), (1070, .iadd, 1), (1071, .iaload, 1), (1072, .aload_n 0, 1), (1073, .iload_n 3, 1), (1074, .iconst 2, 1), (1075, .iadd, 1), (1076, .iaload, 1), (1077, .invokevirtual 141, 3), (1080, .pop, 1), (1081, .aload_n 2, 1), (1082, .aload_n 0, 1), (1083, .iload_n 3, 1), (1084, .iconst 1, 1), (1085, .iadd, 1), (1086, .iaload, 1), (1087, .aload_n 0, 1)]
theorem lc16 : lC16.all lDk = true := by decide +kernel
def lC17 : List (Nat × Instr × Nat) := [(1088, .iload_n 3, 1), (1089, .iconst 2, 1), (1090, .iadd, 1), (1091, .iaload, 1), (1092, .invokevirtual 144, 3), (1095, .pop, 1), (1096, .goto 95, 3), (1099, .aload_n 1, 1), (1100, .aload_n 0, 1), (1101, .iload_n 3, 1), (1102, .iconst 1, 1), (1103, .iadd, 1), (1104, .iaload, 1), (1105, .invokevirtual 145, 3), (1108, .pop, 1), (1109, .aload_n 2, 1), (1110, .aload_n 0, 1), (1111, .iload_n 3, 1), (1112, .iconst 1, 1), (1113, .iadd, 1), (1114, .iaload, 1), (1115, .invokevirtual 148, 3), (1118, .pop, 1), (1119, .goto 72, 3), (1122, .aload_n 1, 1), (1123, .aload_n 0, 1), (1124, .iload_n 3, 1), (1125, .iconst 1, 1), (1126, .iadd, 1), (1127, .iaload, 1), (1128, .invokevirtual 149, 3), (1131, .pop, 1), (1132, .aload_n 2, 1), (1133, .aload_n 0, 1), (1134, .iload_n 3, 1), (1135, .iconst 1, 1), (1136, .iadd, 1), (1137, .iaload, 1), (1138, .invokevirtual 153, 3), (1141, .pop, 1), (1142, .goto 49, 3), (1145, .aload_n 1, 1), (1146, .aload_n 0, 1), (1147, .iload_n 3, 1), (1148, .iconst 1, 1), (1149, .iadd, 1), (1150, .iaload, 1), (1151, .invokevirtual 154, 3)]
theorem lc17 : lC17.all lDk = true := by decide +kernel
def lC18 : List (Nat × Instr × Nat) := [(1154, .pop, 1), (1155, .aload_n 2, 1), (1156, .aload_n 0, 1), (1157, .iload_n 3, 1), (1158, .iconst 1, 1), (1159, .iadd, 1), (1160, .iaload, 1), (1161, .invokevirtual 157, 3), (1164, .pop, 1), (1165, .goto 26, 3), (1168, .aload_n 1, 1), (1169, .aload_n 0, 1), (1170, .iload_n 3, 1), (1171, .iconst 1, 1), (1172, .iadd, 1), (1173, .iaload, 1), (1174, .invokevirtual 158, 3), (1177, .pop, 1), (1178, .aload_n 2, 1), (1179, .aload_n 0, 1), (1180, .iload_n 3, 1), (1181, .iconst 1, 1), (1182, .iadd, 1), (1183, .iaload, 1), (1184, .invokevirtual 161, 3), (1187, .pop, 1), (1188, .goto 3, 3), (1191, .iinc 3 6, 3), (1194, .goto (-1176), 3), (1197, .iconst 1, 1), (1198, .ireturn, 1)]
theorem lc18 : lC18.all lDk = true := by decide +kernel
theorem dl_0 : decode code 0 = .ok (.new 7, 3) := ld lc0 0 (en := (0, .new 7, 3)) rfl
theorem dl_3 : decode code 3 = .ok (.dup, 1) := ld lc0 1 (en := (3, .dup, 1)) rfl
theorem dl_4 : decode code 4 = .ok (.invokespecial 9, 3) := ld lc0 2 (en := (4, .invokespecial 9, 3)) rfl
theorem dl_7 : decode code 7 = .ok (.astore_n 1, 1) := ld lc0 3 (en := (7, .astore_n 1, 1)) rfl
theorem dl_8 : decode code 8 = .ok (.new 10, 3) := ld lc0 4 (en := (8, .new 10, 3)) rfl
theorem dl_11 : decode code 11 = .ok (.dup, 1) := ld lc0 5 (en := (11, .dup, 1)) rfl
theorem dl_12 : decode code 12 = .ok (.invokespecial 12, 3) := ld lc0 6 (en := (12, .invokespecial 12, 3)) rfl
theorem dl_15 : decode code 15 = .ok (.astore_n 2, 1) := ld lc0 7 (en := (15, .astore_n 2, 1)) rfl
theorem dl_16 : decode code 16 = .ok (.iconst 0, 1) := ld lc0 8 (en := (16, .iconst 0, 1)) rfl
theorem dl_17 : decode code 17 = .ok (.istore_n 3, 1) := ld lc0 9 (en := (17, .istore_n 3, 1)) rfl
theorem dl_18 : decode code 18 = .ok (.iload_n 3, 1) := ld lc0 10 (en := (18, .iload_n 3, 1)) rfl
theorem dl_19 : decode code 19 = .ok (.aload_n 0, 1) := ld lc0 11 (en := (19, .aload_n 0, 1)) rfl
theorem dl_20 : decode code 20 = .ok (.arraylength, 1) := ld lc0 12 (en := (20, .arraylength, 1)) rfl
theorem dl_21 : decode code 21 = .ok (.bipush 6, 2) := ld lc0 13 (en := (21, .bipush 6, 2)) rfl
theorem dl_23 : decode code 23 = .ok (.isub, 1) := ld lc0 14 (en := (23, .isub, 1)) rfl
theorem dl_24 : decode code 24 = .ok (.if_icmp .gt 1173, 3) := ld lc0 15 (en := (24, .if_icmp .gt 1173, 3)) rfl
theorem dl_27 : decode code 27 = .ok (.aload_n 0, 1) := ld lc0 16 (en := (27, .aload_n 0, 1)) rfl
theorem dl_28 : decode code 28 = .ok (.iload_n 3, 1) := ld lc0 17 (en := (28, .iload_n 3, 1)) rfl
theorem dl_29 : decode code 29 = .ok (.iaload, 1) := ld lc0 18 (en := (29, .iaload, 1)) rfl
theorem dl_30 : decode code 30 = .ok (.bipush 63, 2) := ld lc0 19 (en := (30, .bipush 63, 2)) rfl
theorem dl_32 : decode code 32 = .ok (.iand, 1) := ld lc0 20 (en := (32, .iand, 1)) rfl
theorem dl_33 : decode code 33 = .ok (.tableswitch 1158 0 34 #[155, 218, 241, 254, 267, 300, 333, 366, 415, 438, 461, 510, 533, 546, 579, 622, 645, 668, 691, 714, 747, 780, 803, 816, 839, 872, 905, 938, 971, 1020, 1033, 1066, 1089, 1112, 1135], 155) := ld lc0 21 (en := (33, .tableswitch 1158 0 34 #[155, 218, 241, 254, 267, 300, 333, 366, 415, 438, 461, 510, 533, 546, 579, 622, 645, 668, 691, 714, 747, 780, 803, 816, 839, 872, 905, 938, 971, 1020, 1033, 1066, 1089, 1112, 1135], 155)) rfl
theorem dl_188 : decode code 188 = .ok (.aload_n 1, 1) := ld lc2 0 (en := (188, .aload_n 1, 1)) rfl
theorem dl_189 : decode code 189 = .ok (.aload_n 0, 1) := ld lc2 1 (en := (189, .aload_n 0, 1)) rfl
theorem dl_190 : decode code 190 = .ok (.iload_n 3, 1) := ld lc2 2 (en := (190, .iload_n 3, 1)) rfl
theorem dl_191 : decode code 191 = .ok (.iconst 1, 1) := ld lc2 3 (en := (191, .iconst 1, 1)) rfl
theorem dl_192 : decode code 192 = .ok (.iadd, 1) := ld lc3 0 (en := (192, .iadd, 1)) rfl
theorem dl_193 : decode code 193 = .ok (.iaload, 1) := ld lc3 1 (en := (193, .iaload, 1)) rfl
theorem dl_194 : decode code 194 = .ok (.aload_n 0, 1) := ld lc3 2 (en := (194, .aload_n 0, 1)) rfl
theorem dl_195 : decode code 195 = .ok (.iload_n 3, 1) := ld lc3 3 (en := (195, .iload_n 3, 1)) rfl
theorem dl_196 : decode code 196 = .ok (.iconst 2, 1) := ld lc3 4 (en := (196, .iconst 2, 1)) rfl
theorem dl_197 : decode code 197 = .ok (.iadd, 1) := ld lc3 5 (en := (197, .iadd, 1)) rfl
theorem dl_198 : decode code 198 = .ok (.iaload, 1) := ld lc3 6 (en := (198, .iaload, 1)) rfl
theorem dl_199 : decode code 199 = .ok (.aload_n 0, 1) := ld lc3 7 (en := (199, .aload_n 0, 1)) rfl
theorem dl_200 : decode code 200 = .ok (.iload_n 3, 1) := ld lc3 8 (en := (200, .iload_n 3, 1)) rfl
theorem dl_201 : decode code 201 = .ok (.iconst 3, 1) := ld lc3 9 (en := (201, .iconst 3, 1)) rfl
theorem dl_202 : decode code 202 = .ok (.iadd, 1) := ld lc3 10 (en := (202, .iadd, 1)) rfl
theorem dl_203 : decode code 203 = .ok (.iaload, 1) := ld lc3 11 (en := (203, .iaload, 1)) rfl
theorem dl_204 : decode code 204 = .ok (.aload_n 0, 1) := ld lc3 12 (en := (204, .aload_n 0, 1)) rfl
theorem dl_205 : decode code 205 = .ok (.iload_n 3, 1) := ld lc3 13 (en := (205, .iload_n 3, 1)) rfl
theorem dl_206 : decode code 206 = .ok (.iconst 4, 1) := ld lc3 14 (en := (206, .iconst 4, 1)) rfl
theorem dl_207 : decode code 207 = .ok (.iadd, 1) := ld lc3 15 (en := (207, .iadd, 1)) rfl
theorem dl_208 : decode code 208 = .ok (.iaload, 1) := ld lc3 16 (en := (208, .iaload, 1)) rfl
theorem dl_209 : decode code 209 = .ok (.aload_n 0, 1) := ld lc3 17 (en := (209, .aload_n 0, 1)) rfl
theorem dl_210 : decode code 210 = .ok (.iload_n 3, 1) := ld lc3 18 (en := (210, .iload_n 3, 1)) rfl
theorem dl_211 : decode code 211 = .ok (.iconst 5, 1) := ld lc3 19 (en := (211, .iconst 5, 1)) rfl
theorem dl_212 : decode code 212 = .ok (.iadd, 1) := ld lc3 20 (en := (212, .iadd, 1)) rfl
theorem dl_213 : decode code 213 = .ok (.iaload, 1) := ld lc3 21 (en := (213, .iaload, 1)) rfl
theorem dl_214 : decode code 214 = .ok (.invokevirtual 13, 3) := ld lc3 22 (en := (214, .invokevirtual 13, 3)) rfl
theorem dl_217 : decode code 217 = .ok (.pop, 1) := ld lc3 23 (en := (217, .pop, 1)) rfl
theorem dl_218 : decode code 218 = .ok (.aload_n 2, 1) := ld lc3 24 (en := (218, .aload_n 2, 1)) rfl
theorem dl_219 : decode code 219 = .ok (.aload_n 0, 1) := ld lc3 25 (en := (219, .aload_n 0, 1)) rfl
theorem dl_220 : decode code 220 = .ok (.iload_n 3, 1) := ld lc3 26 (en := (220, .iload_n 3, 1)) rfl
theorem dl_221 : decode code 221 = .ok (.iconst 1, 1) := ld lc3 27 (en := (221, .iconst 1, 1)) rfl
theorem dl_222 : decode code 222 = .ok (.iadd, 1) := ld lc3 28 (en := (222, .iadd, 1)) rfl
theorem dl_223 : decode code 223 = .ok (.iaload, 1) := ld lc3 29 (en := (223, .iaload, 1)) rfl
theorem dl_224 : decode code 224 = .ok (.aload_n 0, 1) := ld lc3 30 (en := (224, .aload_n 0, 1)) rfl
theorem dl_225 : decode code 225 = .ok (.iload_n 3, 1) := ld lc3 31 (en := (225, .iload_n 3, 1)) rfl
theorem dl_226 : decode code 226 = .ok (.iconst 2, 1) := ld lc3 32 (en := (226, .iconst 2, 1)) rfl
theorem dl_227 : decode code 227 = .ok (.iadd, 1) := ld lc3 33 (en := (227, .iadd, 1)) rfl
theorem dl_228 : decode code 228 = .ok (.iaload, 1) := ld lc3 34 (en := (228, .iaload, 1)) rfl
theorem dl_229 : decode code 229 = .ok (.aload_n 0, 1) := ld lc3 35 (en := (229, .aload_n 0, 1)) rfl
theorem dl_230 : decode code 230 = .ok (.iload_n 3, 1) := ld lc3 36 (en := (230, .iload_n 3, 1)) rfl
theorem dl_231 : decode code 231 = .ok (.iconst 3, 1) := ld lc3 37 (en := (231, .iconst 3, 1)) rfl
theorem dl_232 : decode code 232 = .ok (.iadd, 1) := ld lc3 38 (en := (232, .iadd, 1)) rfl
theorem dl_233 : decode code 233 = .ok (.iaload, 1) := ld lc3 39 (en := (233, .iaload, 1)) rfl
theorem dl_234 : decode code 234 = .ok (.aload_n 0, 1) := ld lc3 40 (en := (234, .aload_n 0, 1)) rfl
theorem dl_235 : decode code 235 = .ok (.iload_n 3, 1) := ld lc3 41 (en := (235, .iload_n 3, 1)) rfl
theorem dl_236 : decode code 236 = .ok (.iconst 4, 1) := ld lc3 42 (en := (236, .iconst 4, 1)) rfl
theorem dl_237 : decode code 237 = .ok (.iadd, 1) := ld lc3 43 (en := (237, .iadd, 1)) rfl
theorem dl_238 : decode code 238 = .ok (.iaload, 1) := ld lc3 44 (en := (238, .iaload, 1)) rfl
theorem dl_239 : decode code 239 = .ok (.aload_n 0, 1) := ld lc3 45 (en := (239, .aload_n 0, 1)) rfl
theorem dl_240 : decode code 240 = .ok (.iload_n 3, 1) := ld lc3 46 (en := (240, .iload_n 3, 1)) rfl
theorem dl_241 : decode code 241 = .ok (.iconst 5, 1) := ld lc3 47 (en := (241, .iconst 5, 1)) rfl
theorem dl_242 : decode code 242 = .ok (.iadd, 1) := ld lc3 48 (en := (242, .iadd, 1)) rfl
theorem dl_243 : decode code 243 = .ok (.iaload, 1) := ld lc3 49 (en := (243, .iaload, 1)) rfl
theorem dl_244 : decode code 244 = .ok (.invokevirtual 17, 3) := ld lc3 50 (en := (244, .invokevirtual 17, 3)) rfl
theorem dl_247 : decode code 247 = .ok (.pop, 1) := ld lc3 51 (en := (247, .pop, 1)) rfl
theorem dl_248 : decode code 248 = .ok (.goto 943, 3) := ld lc3 52 (en := (248, .goto 943, 3)) rfl
theorem dl_251 : decode code 251 = .ok (.aload_n 1, 1) := ld lc3 53 (en := (251, .aload_n 1, 1)) rfl
theorem dl_252 : decode code 252 = .ok (.aload_n 0, 1) := ld lc3 54 (en := (252, .aload_n 0, 1)) rfl
theorem dl_253 : decode code 253 = .ok (.iload_n 3, 1) := ld lc3 55 (en := (253, .iload_n 3, 1)) rfl
theorem dl_254 : decode code 254 = .ok (.iconst 1, 1) := ld lc3 56 (en := (254, .iconst 1, 1)) rfl
theorem dl_255 : decode code 255 = .ok (.iadd, 1) := ld lc3 57 (en := (255, .iadd, 1)) rfl
theorem dl_256 : decode code 256 = .ok (.iaload, 1) := ld lc4 0 (en := (256, .iaload, 1)) rfl
theorem dl_257 : decode code 257 = .ok (.invokevirtual 18, 3) := ld lc4 1 (en := (257, .invokevirtual 18, 3)) rfl
theorem dl_260 : decode code 260 = .ok (.pop, 1) := ld lc4 2 (en := (260, .pop, 1)) rfl
theorem dl_261 : decode code 261 = .ok (.aload_n 2, 1) := ld lc4 3 (en := (261, .aload_n 2, 1)) rfl
theorem dl_262 : decode code 262 = .ok (.aload_n 0, 1) := ld lc4 4 (en := (262, .aload_n 0, 1)) rfl
theorem dl_263 : decode code 263 = .ok (.iload_n 3, 1) := ld lc4 5 (en := (263, .iload_n 3, 1)) rfl
theorem dl_264 : decode code 264 = .ok (.iconst 1, 1) := ld lc4 6 (en := (264, .iconst 1, 1)) rfl
theorem dl_265 : decode code 265 = .ok (.iadd, 1) := ld lc4 7 (en := (265, .iadd, 1)) rfl
theorem dl_266 : decode code 266 = .ok (.iaload, 1) := ld lc4 8 (en := (266, .iaload, 1)) rfl
theorem dl_267 : decode code 267 = .ok (.invokevirtual 22, 3) := ld lc4 9 (en := (267, .invokevirtual 22, 3)) rfl
theorem dl_270 : decode code 270 = .ok (.pop, 1) := ld lc4 10 (en := (270, .pop, 1)) rfl
theorem dl_271 : decode code 271 = .ok (.goto 920, 3) := ld lc4 11 (en := (271, .goto 920, 3)) rfl
theorem dl_274 : decode code 274 = .ok (.aload_n 1, 1) := ld lc4 12 (en := (274, .aload_n 1, 1)) rfl
theorem dl_275 : decode code 275 = .ok (.invokevirtual 23, 3) := ld lc4 13 (en := (275, .invokevirtual 23, 3)) rfl
theorem dl_278 : decode code 278 = .ok (.pop, 1) := ld lc4 14 (en := (278, .pop, 1)) rfl
theorem dl_279 : decode code 279 = .ok (.aload_n 2, 1) := ld lc4 15 (en := (279, .aload_n 2, 1)) rfl
theorem dl_280 : decode code 280 = .ok (.invokevirtual 27, 3) := ld lc4 16 (en := (280, .invokevirtual 27, 3)) rfl
theorem dl_283 : decode code 283 = .ok (.pop, 1) := ld lc4 17 (en := (283, .pop, 1)) rfl
theorem dl_284 : decode code 284 = .ok (.goto 907, 3) := ld lc4 18 (en := (284, .goto 907, 3)) rfl
theorem dl_287 : decode code 287 = .ok (.aload_n 1, 1) := ld lc4 19 (en := (287, .aload_n 1, 1)) rfl
theorem dl_288 : decode code 288 = .ok (.invokevirtual 28, 3) := ld lc4 20 (en := (288, .invokevirtual 28, 3)) rfl
theorem dl_291 : decode code 291 = .ok (.pop, 1) := ld lc4 21 (en := (291, .pop, 1)) rfl
theorem dl_292 : decode code 292 = .ok (.aload_n 2, 1) := ld lc4 22 (en := (292, .aload_n 2, 1)) rfl
theorem dl_293 : decode code 293 = .ok (.invokevirtual 31, 3) := ld lc4 23 (en := (293, .invokevirtual 31, 3)) rfl
theorem dl_296 : decode code 296 = .ok (.pop, 1) := ld lc4 24 (en := (296, .pop, 1)) rfl
theorem dl_297 : decode code 297 = .ok (.goto 894, 3) := ld lc4 25 (en := (297, .goto 894, 3)) rfl
theorem dl_300 : decode code 300 = .ok (.aload_n 1, 1) := ld lc4 26 (en := (300, .aload_n 1, 1)) rfl
theorem dl_301 : decode code 301 = .ok (.aload_n 0, 1) := ld lc4 27 (en := (301, .aload_n 0, 1)) rfl
theorem dl_302 : decode code 302 = .ok (.iload_n 3, 1) := ld lc4 28 (en := (302, .iload_n 3, 1)) rfl
theorem dl_303 : decode code 303 = .ok (.iconst 1, 1) := ld lc4 29 (en := (303, .iconst 1, 1)) rfl
theorem dl_304 : decode code 304 = .ok (.iadd, 1) := ld lc4 30 (en := (304, .iadd, 1)) rfl
theorem dl_305 : decode code 305 = .ok (.iaload, 1) := ld lc4 31 (en := (305, .iaload, 1)) rfl
theorem dl_306 : decode code 306 = .ok (.aload_n 0, 1) := ld lc4 32 (en := (306, .aload_n 0, 1)) rfl
theorem dl_307 : decode code 307 = .ok (.iload_n 3, 1) := ld lc4 33 (en := (307, .iload_n 3, 1)) rfl
theorem dl_308 : decode code 308 = .ok (.iconst 2, 1) := ld lc4 34 (en := (308, .iconst 2, 1)) rfl
theorem dl_309 : decode code 309 = .ok (.iadd, 1) := ld lc4 35 (en := (309, .iadd, 1)) rfl
theorem dl_310 : decode code 310 = .ok (.iaload, 1) := ld lc4 36 (en := (310, .iaload, 1)) rfl
theorem dl_311 : decode code 311 = .ok (.invokevirtual 32, 3) := ld lc4 37 (en := (311, .invokevirtual 32, 3)) rfl
theorem dl_314 : decode code 314 = .ok (.pop, 1) := ld lc4 38 (en := (314, .pop, 1)) rfl
theorem dl_315 : decode code 315 = .ok (.aload_n 2, 1) := ld lc4 39 (en := (315, .aload_n 2, 1)) rfl
theorem dl_316 : decode code 316 = .ok (.aload_n 0, 1) := ld lc4 40 (en := (316, .aload_n 0, 1)) rfl
theorem dl_317 : decode code 317 = .ok (.iload_n 3, 1) := ld lc4 41 (en := (317, .iload_n 3, 1)) rfl
theorem dl_318 : decode code 318 = .ok (.iconst 1, 1) := ld lc4 42 (en := (318, .iconst 1, 1)) rfl
theorem dl_319 : decode code 319 = .ok (.iadd, 1) := ld lc4 43 (en := (319, .iadd, 1)) rfl
theorem dl_320 : decode code 320 = .ok (.iaload, 1) := ld lc5 0 (en := (320, .iaload, 1)) rfl
theorem dl_321 : decode code 321 = .ok (.aload_n 0, 1) := ld lc5 1 (en := (321, .aload_n 0, 1)) rfl
theorem dl_322 : decode code 322 = .ok (.iload_n 3, 1) := ld lc5 2 (en := (322, .iload_n 3, 1)) rfl
theorem dl_323 : decode code 323 = .ok (.iconst 2, 1) := ld lc5 3 (en := (323, .iconst 2, 1)) rfl
theorem dl_324 : decode code 324 = .ok (.iadd, 1) := ld lc5 4 (en := (324, .iadd, 1)) rfl
theorem dl_325 : decode code 325 = .ok (.iaload, 1) := ld lc5 5 (en := (325, .iaload, 1)) rfl
theorem dl_326 : decode code 326 = .ok (.invokevirtual 36, 3) := ld lc5 6 (en := (326, .invokevirtual 36, 3)) rfl
theorem dl_329 : decode code 329 = .ok (.pop, 1) := ld lc5 7 (en := (329, .pop, 1)) rfl
theorem dl_330 : decode code 330 = .ok (.goto 861, 3) := ld lc5 8 (en := (330, .goto 861, 3)) rfl
theorem dl_333 : decode code 333 = .ok (.aload_n 1, 1) := ld lc5 9 (en := (333, .aload_n 1, 1)) rfl
theorem dl_334 : decode code 334 = .ok (.aload_n 0, 1) := ld lc5 10 (en := (334, .aload_n 0, 1)) rfl
theorem dl_335 : decode code 335 = .ok (.iload_n 3, 1) := ld lc5 11 (en := (335, .iload_n 3, 1)) rfl
theorem dl_336 : decode code 336 = .ok (.iconst 1, 1) := ld lc5 12 (en := (336, .iconst 1, 1)) rfl
theorem dl_337 : decode code 337 = .ok (.iadd, 1) := ld lc5 13 (en := (337, .iadd, 1)) rfl
theorem dl_338 : decode code 338 = .ok (.iaload, 1) := ld lc5 14 (en := (338, .iaload, 1)) rfl
theorem dl_339 : decode code 339 = .ok (.aload_n 0, 1) := ld lc5 15 (en := (339, .aload_n 0, 1)) rfl
theorem dl_340 : decode code 340 = .ok (.iload_n 3, 1) := ld lc5 16 (en := (340, .iload_n 3, 1)) rfl
theorem dl_341 : decode code 341 = .ok (.iconst 2, 1) := ld lc5 17 (en := (341, .iconst 2, 1)) rfl
theorem dl_342 : decode code 342 = .ok (.iadd, 1) := ld lc5 18 (en := (342, .iadd, 1)) rfl
theorem dl_343 : decode code 343 = .ok (.iaload, 1) := ld lc5 19 (en := (343, .iaload, 1)) rfl
theorem dl_344 : decode code 344 = .ok (.invokevirtual 37, 3) := ld lc5 20 (en := (344, .invokevirtual 37, 3)) rfl
theorem dl_347 : decode code 347 = .ok (.pop, 1) := ld lc5 21 (en := (347, .pop, 1)) rfl
theorem dl_348 : decode code 348 = .ok (.aload_n 2, 1) := ld lc5 22 (en := (348, .aload_n 2, 1)) rfl
theorem dl_349 : decode code 349 = .ok (.aload_n 0, 1) := ld lc5 23 (en := (349, .aload_n 0, 1)) rfl
theorem dl_350 : decode code 350 = .ok (.iload_n 3, 1) := ld lc5 24 (en := (350, .iload_n 3, 1)) rfl
theorem dl_351 : decode code 351 = .ok (.iconst 1, 1) := ld lc5 25 (en := (351, .iconst 1, 1)) rfl
theorem dl_352 : decode code 352 = .ok (.iadd, 1) := ld lc5 26 (en := (352, .iadd, 1)) rfl
theorem dl_353 : decode code 353 = .ok (.iaload, 1) := ld lc5 27 (en := (353, .iaload, 1)) rfl
theorem dl_354 : decode code 354 = .ok (.aload_n 0, 1) := ld lc5 28 (en := (354, .aload_n 0, 1)) rfl
theorem dl_355 : decode code 355 = .ok (.iload_n 3, 1) := ld lc5 29 (en := (355, .iload_n 3, 1)) rfl
theorem dl_356 : decode code 356 = .ok (.iconst 2, 1) := ld lc5 30 (en := (356, .iconst 2, 1)) rfl
theorem dl_357 : decode code 357 = .ok (.iadd, 1) := ld lc5 31 (en := (357, .iadd, 1)) rfl
theorem dl_358 : decode code 358 = .ok (.iaload, 1) := ld lc5 32 (en := (358, .iaload, 1)) rfl
theorem dl_359 : decode code 359 = .ok (.invokevirtual 40, 3) := ld lc5 33 (en := (359, .invokevirtual 40, 3)) rfl
theorem dl_362 : decode code 362 = .ok (.pop, 1) := ld lc5 34 (en := (362, .pop, 1)) rfl
theorem dl_363 : decode code 363 = .ok (.goto 828, 3) := ld lc5 35 (en := (363, .goto 828, 3)) rfl
theorem dl_366 : decode code 366 = .ok (.aload_n 1, 1) := ld lc5 36 (en := (366, .aload_n 1, 1)) rfl
theorem dl_367 : decode code 367 = .ok (.aload_n 0, 1) := ld lc5 37 (en := (367, .aload_n 0, 1)) rfl
theorem dl_368 : decode code 368 = .ok (.iload_n 3, 1) := ld lc5 38 (en := (368, .iload_n 3, 1)) rfl
theorem dl_369 : decode code 369 = .ok (.iconst 1, 1) := ld lc5 39 (en := (369, .iconst 1, 1)) rfl
theorem dl_370 : decode code 370 = .ok (.iadd, 1) := ld lc5 40 (en := (370, .iadd, 1)) rfl
theorem dl_371 : decode code 371 = .ok (.iaload, 1) := ld lc5 41 (en := (371, .iaload, 1)) rfl
theorem dl_372 : decode code 372 = .ok (.aload_n 0, 1) := ld lc5 42 (en := (372, .aload_n 0, 1)) rfl
theorem dl_373 : decode code 373 = .ok (.iload_n 3, 1) := ld lc5 43 (en := (373, .iload_n 3, 1)) rfl
theorem dl_374 : decode code 374 = .ok (.iconst 2, 1) := ld lc5 44 (en := (374, .iconst 2, 1)) rfl
theorem dl_375 : decode code 375 = .ok (.iadd, 1) := ld lc5 45 (en := (375, .iadd, 1)) rfl
theorem dl_376 : decode code 376 = .ok (.iaload, 1) := ld lc5 46 (en := (376, .iaload, 1)) rfl
theorem dl_377 : decode code 377 = .ok (.invokevirtual 41, 3) := ld lc5 47 (en := (377, .invokevirtual 41, 3)) rfl
theorem dl_380 : decode code 380 = .ok (.pop, 1) := ld lc5 48 (en := (380, .pop, 1)) rfl
theorem dl_381 : decode code 381 = .ok (.aload_n 2, 1) := ld lc5 49 (en := (381, .aload_n 2, 1)) rfl
theorem dl_382 : decode code 382 = .ok (.aload_n 0, 1) := ld lc5 50 (en := (382, .aload_n 0, 1)) rfl
theorem dl_383 : decode code 383 = .ok (.iload_n 3, 1) := ld lc5 51 (en := (383, .iload_n 3, 1)) rfl
theorem dl_384 : decode code 384 = .ok (.iconst 1, 1) := ld lc6 0 (en := (384, .iconst 1, 1)) rfl
theorem dl_385 : decode code 385 = .ok (.iadd, 1) := ld lc6 1 (en := (385, .iadd, 1)) rfl
theorem dl_386 : decode code 386 = .ok (.iaload, 1) := ld lc6 2 (en := (386, .iaload, 1)) rfl
theorem dl_387 : decode code 387 = .ok (.aload_n 0, 1) := ld lc6 3 (en := (387, .aload_n 0, 1)) rfl
theorem dl_388 : decode code 388 = .ok (.iload_n 3, 1) := ld lc6 4 (en := (388, .iload_n 3, 1)) rfl
theorem dl_389 : decode code 389 = .ok (.iconst 2, 1) := ld lc6 5 (en := (389, .iconst 2, 1)) rfl
theorem dl_390 : decode code 390 = .ok (.iadd, 1) := ld lc6 6 (en := (390, .iadd, 1)) rfl
theorem dl_391 : decode code 391 = .ok (.iaload, 1) := ld lc6 7 (en := (391, .iaload, 1)) rfl
theorem dl_392 : decode code 392 = .ok (.invokevirtual 44, 3) := ld lc6 8 (en := (392, .invokevirtual 44, 3)) rfl
theorem dl_395 : decode code 395 = .ok (.pop, 1) := ld lc6 9 (en := (395, .pop, 1)) rfl
theorem dl_396 : decode code 396 = .ok (.goto 795, 3) := ld lc6 10 (en := (396, .goto 795, 3)) rfl
theorem dl_399 : decode code 399 = .ok (.aload_n 1, 1) := ld lc6 11 (en := (399, .aload_n 1, 1)) rfl
theorem dl_400 : decode code 400 = .ok (.aload_n 0, 1) := ld lc6 12 (en := (400, .aload_n 0, 1)) rfl
theorem dl_401 : decode code 401 = .ok (.iload_n 3, 1) := ld lc6 13 (en := (401, .iload_n 3, 1)) rfl
theorem dl_402 : decode code 402 = .ok (.iconst 1, 1) := ld lc6 14 (en := (402, .iconst 1, 1)) rfl
theorem dl_403 : decode code 403 = .ok (.iadd, 1) := ld lc6 15 (en := (403, .iadd, 1)) rfl
theorem dl_404 : decode code 404 = .ok (.iaload, 1) := ld lc6 16 (en := (404, .iaload, 1)) rfl
theorem dl_405 : decode code 405 = .ok (.aload_n 0, 1) := ld lc6 17 (en := (405, .aload_n 0, 1)) rfl
theorem dl_406 : decode code 406 = .ok (.iload_n 3, 1) := ld lc6 18 (en := (406, .iload_n 3, 1)) rfl
theorem dl_407 : decode code 407 = .ok (.iconst 2, 1) := ld lc6 19 (en := (407, .iconst 2, 1)) rfl
theorem dl_408 : decode code 408 = .ok (.iadd, 1) := ld lc6 20 (en := (408, .iadd, 1)) rfl
theorem dl_409 : decode code 409 = .ok (.iaload, 1) := ld lc6 21 (en := (409, .iaload, 1)) rfl
theorem dl_410 : decode code 410 = .ok (.ifCond .eq 7, 3) := ld lc6 22 (en := (410, .ifCond .eq 7, 3)) rfl
theorem dl_413 : decode code 413 = .ok (.iconst 1, 1) := ld lc6 23 (en := (413, .iconst 1, 1)) rfl
theorem dl_414 : decode code 414 = .ok (.goto 4, 3) := ld lc6 24 (en := (414, .goto 4, 3)) rfl
theorem dl_417 : decode code 417 = .ok (.iconst 0, 1) := ld lc6 25 (en := (417, .iconst 0, 1)) rfl
theorem dl_418 : decode code 418 = .ok (.invokevirtual 45, 3) := ld lc6 26 (en := (418, .invokevirtual 45, 3)) rfl
theorem dl_421 : decode code 421 = .ok (.pop, 1) := ld lc6 27 (en := (421, .pop, 1)) rfl
theorem dl_422 : decode code 422 = .ok (.aload_n 2, 1) := ld lc6 28 (en := (422, .aload_n 2, 1)) rfl
theorem dl_423 : decode code 423 = .ok (.aload_n 0, 1) := ld lc6 29 (en := (423, .aload_n 0, 1)) rfl
theorem dl_424 : decode code 424 = .ok (.iload_n 3, 1) := ld lc6 30 (en := (424, .iload_n 3, 1)) rfl
theorem dl_425 : decode code 425 = .ok (.iconst 1, 1) := ld lc6 31 (en := (425, .iconst 1, 1)) rfl
theorem dl_426 : decode code 426 = .ok (.iadd, 1) := ld lc6 32 (en := (426, .iadd, 1)) rfl
theorem dl_427 : decode code 427 = .ok (.iaload, 1) := ld lc6 33 (en := (427, .iaload, 1)) rfl
theorem dl_428 : decode code 428 = .ok (.aload_n 0, 1) := ld lc6 34 (en := (428, .aload_n 0, 1)) rfl
theorem dl_429 : decode code 429 = .ok (.iload_n 3, 1) := ld lc6 35 (en := (429, .iload_n 3, 1)) rfl
theorem dl_430 : decode code 430 = .ok (.iconst 2, 1) := ld lc6 36 (en := (430, .iconst 2, 1)) rfl
theorem dl_431 : decode code 431 = .ok (.iadd, 1) := ld lc6 37 (en := (431, .iadd, 1)) rfl
theorem dl_432 : decode code 432 = .ok (.iaload, 1) := ld lc6 38 (en := (432, .iaload, 1)) rfl
theorem dl_433 : decode code 433 = .ok (.ifCond .eq 7, 3) := ld lc6 39 (en := (433, .ifCond .eq 7, 3)) rfl
theorem dl_436 : decode code 436 = .ok (.iconst 1, 1) := ld lc6 40 (en := (436, .iconst 1, 1)) rfl
theorem dl_437 : decode code 437 = .ok (.goto 4, 3) := ld lc6 41 (en := (437, .goto 4, 3)) rfl
theorem dl_440 : decode code 440 = .ok (.iconst 0, 1) := ld lc6 42 (en := (440, .iconst 0, 1)) rfl
theorem dl_441 : decode code 441 = .ok (.invokevirtual 49, 3) := ld lc6 43 (en := (441, .invokevirtual 49, 3)) rfl
theorem dl_444 : decode code 444 = .ok (.pop, 1) := ld lc6 44 (en := (444, .pop, 1)) rfl
theorem dl_445 : decode code 445 = .ok (.goto 746, 3) := ld lc6 45 (en := (445, .goto 746, 3)) rfl
theorem dl_448 : decode code 448 = .ok (.aload_n 1, 1) := ld lc7 0 (en := (448, .aload_n 1, 1)) rfl
theorem dl_449 : decode code 449 = .ok (.aload_n 0, 1) := ld lc7 1 (en := (449, .aload_n 0, 1)) rfl
theorem dl_450 : decode code 450 = .ok (.iload_n 3, 1) := ld lc7 2 (en := (450, .iload_n 3, 1)) rfl
theorem dl_451 : decode code 451 = .ok (.iconst 1, 1) := ld lc7 3 (en := (451, .iconst 1, 1)) rfl
theorem dl_452 : decode code 452 = .ok (.iadd, 1) := ld lc7 4 (en := (452, .iadd, 1)) rfl
theorem dl_453 : decode code 453 = .ok (.iaload, 1) := ld lc7 5 (en := (453, .iaload, 1)) rfl
theorem dl_454 : decode code 454 = .ok (.invokevirtual 50, 3) := ld lc7 6 (en := (454, .invokevirtual 50, 3)) rfl
theorem dl_457 : decode code 457 = .ok (.pop, 1) := ld lc7 7 (en := (457, .pop, 1)) rfl
theorem dl_458 : decode code 458 = .ok (.aload_n 2, 1) := ld lc7 8 (en := (458, .aload_n 2, 1)) rfl
theorem dl_459 : decode code 459 = .ok (.aload_n 0, 1) := ld lc7 9 (en := (459, .aload_n 0, 1)) rfl
theorem dl_460 : decode code 460 = .ok (.iload_n 3, 1) := ld lc7 10 (en := (460, .iload_n 3, 1)) rfl
theorem dl_461 : decode code 461 = .ok (.iconst 1, 1) := ld lc7 11 (en := (461, .iconst 1, 1)) rfl
theorem dl_462 : decode code 462 = .ok (.iadd, 1) := ld lc7 12 (en := (462, .iadd, 1)) rfl
theorem dl_463 : decode code 463 = .ok (.iaload, 1) := ld lc7 13 (en := (463, .iaload, 1)) rfl
theorem dl_464 : decode code 464 = .ok (.invokevirtual 53, 3) := ld lc7 14 (en := (464, .invokevirtual 53, 3)) rfl
theorem dl_467 : decode code 467 = .ok (.pop, 1) := ld lc7 15 (en := (467, .pop, 1)) rfl
theorem dl_468 : decode code 468 = .ok (.goto 723, 3) := ld lc7 16 (en := (468, .goto 723, 3)) rfl
theorem dl_471 : decode code 471 = .ok (.aload_n 1, 1) := ld lc7 17 (en := (471, .aload_n 1, 1)) rfl
theorem dl_472 : decode code 472 = .ok (.aload_n 0, 1) := ld lc7 18 (en := (472, .aload_n 0, 1)) rfl
theorem dl_473 : decode code 473 = .ok (.iload_n 3, 1) := ld lc7 19 (en := (473, .iload_n 3, 1)) rfl
theorem dl_474 : decode code 474 = .ok (.iconst 1, 1) := ld lc7 20 (en := (474, .iconst 1, 1)) rfl
theorem dl_475 : decode code 475 = .ok (.iadd, 1) := ld lc7 21 (en := (475, .iadd, 1)) rfl
theorem dl_476 : decode code 476 = .ok (.iaload, 1) := ld lc7 22 (en := (476, .iaload, 1)) rfl
theorem dl_477 : decode code 477 = .ok (.invokevirtual 54, 3) := ld lc7 23 (en := (477, .invokevirtual 54, 3)) rfl
theorem dl_480 : decode code 480 = .ok (.pop, 1) := ld lc7 24 (en := (480, .pop, 1)) rfl
theorem dl_481 : decode code 481 = .ok (.aload_n 2, 1) := ld lc7 25 (en := (481, .aload_n 2, 1)) rfl
theorem dl_482 : decode code 482 = .ok (.aload_n 0, 1) := ld lc7 26 (en := (482, .aload_n 0, 1)) rfl
theorem dl_483 : decode code 483 = .ok (.iload_n 3, 1) := ld lc7 27 (en := (483, .iload_n 3, 1)) rfl
theorem dl_484 : decode code 484 = .ok (.iconst 1, 1) := ld lc7 28 (en := (484, .iconst 1, 1)) rfl
theorem dl_485 : decode code 485 = .ok (.iadd, 1) := ld lc7 29 (en := (485, .iadd, 1)) rfl
theorem dl_486 : decode code 486 = .ok (.iaload, 1) := ld lc7 30 (en := (486, .iaload, 1)) rfl
theorem dl_487 : decode code 487 = .ok (.invokevirtual 57, 3) := ld lc7 31 (en := (487, .invokevirtual 57, 3)) rfl
theorem dl_490 : decode code 490 = .ok (.pop, 1) := ld lc7 32 (en := (490, .pop, 1)) rfl
theorem dl_491 : decode code 491 = .ok (.goto 700, 3) := ld lc7 33 (en := (491, .goto 700, 3)) rfl
theorem dl_494 : decode code 494 = .ok (.aload_n 1, 1) := ld lc7 34 (en := (494, .aload_n 1, 1)) rfl
theorem dl_495 : decode code 495 = .ok (.aload_n 0, 1) := ld lc7 35 (en := (495, .aload_n 0, 1)) rfl
theorem dl_496 : decode code 496 = .ok (.iload_n 3, 1) := ld lc7 36 (en := (496, .iload_n 3, 1)) rfl
theorem dl_497 : decode code 497 = .ok (.iconst 1, 1) := ld lc7 37 (en := (497, .iconst 1, 1)) rfl
theorem dl_498 : decode code 498 = .ok (.iadd, 1) := ld lc7 38 (en := (498, .iadd, 1)) rfl
theorem dl_499 : decode code 499 = .ok (.iaload, 1) := ld lc7 39 (en := (499, .iaload, 1)) rfl
theorem dl_500 : decode code 500 = .ok (.aload_n 0, 1) := ld lc7 40 (en := (500, .aload_n 0, 1)) rfl
theorem dl_501 : decode code 501 = .ok (.iload_n 3, 1) := ld lc7 41 (en := (501, .iload_n 3, 1)) rfl
theorem dl_502 : decode code 502 = .ok (.iconst 2, 1) := ld lc7 42 (en := (502, .iconst 2, 1)) rfl
theorem dl_503 : decode code 503 = .ok (.iadd, 1) := ld lc7 43 (en := (503, .iadd, 1)) rfl
theorem dl_504 : decode code 504 = .ok (.iaload, 1) := ld lc7 44 (en := (504, .iaload, 1)) rfl
theorem dl_505 : decode code 505 = .ok (.ifCond .eq 7, 3) := ld lc7 45 (en := (505, .ifCond .eq 7, 3)) rfl
theorem dl_508 : decode code 508 = .ok (.iconst 1, 1) := ld lc7 46 (en := (508, .iconst 1, 1)) rfl
theorem dl_509 : decode code 509 = .ok (.goto 4, 3) := ld lc7 47 (en := (509, .goto 4, 3)) rfl
theorem dl_512 : decode code 512 = .ok (.iconst 0, 1) := ld lc8 0 (en := (512, .iconst 0, 1)) rfl
theorem dl_513 : decode code 513 = .ok (.invokevirtual 58, 3) := ld lc8 1 (en := (513, .invokevirtual 58, 3)) rfl
theorem dl_516 : decode code 516 = .ok (.pop, 1) := ld lc8 2 (en := (516, .pop, 1)) rfl
theorem dl_517 : decode code 517 = .ok (.aload_n 2, 1) := ld lc8 3 (en := (517, .aload_n 2, 1)) rfl
theorem dl_518 : decode code 518 = .ok (.aload_n 0, 1) := ld lc8 4 (en := (518, .aload_n 0, 1)) rfl
theorem dl_519 : decode code 519 = .ok (.iload_n 3, 1) := ld lc8 5 (en := (519, .iload_n 3, 1)) rfl
theorem dl_520 : decode code 520 = .ok (.iconst 1, 1) := ld lc8 6 (en := (520, .iconst 1, 1)) rfl
theorem dl_521 : decode code 521 = .ok (.iadd, 1) := ld lc8 7 (en := (521, .iadd, 1)) rfl
theorem dl_522 : decode code 522 = .ok (.iaload, 1) := ld lc8 8 (en := (522, .iaload, 1)) rfl
theorem dl_523 : decode code 523 = .ok (.aload_n 0, 1) := ld lc8 9 (en := (523, .aload_n 0, 1)) rfl
theorem dl_524 : decode code 524 = .ok (.iload_n 3, 1) := ld lc8 10 (en := (524, .iload_n 3, 1)) rfl
theorem dl_525 : decode code 525 = .ok (.iconst 2, 1) := ld lc8 11 (en := (525, .iconst 2, 1)) rfl
theorem dl_526 : decode code 526 = .ok (.iadd, 1) := ld lc8 12 (en := (526, .iadd, 1)) rfl
theorem dl_527 : decode code 527 = .ok (.iaload, 1) := ld lc8 13 (en := (527, .iaload, 1)) rfl
theorem dl_528 : decode code 528 = .ok (.ifCond .eq 7, 3) := ld lc8 14 (en := (528, .ifCond .eq 7, 3)) rfl
theorem dl_531 : decode code 531 = .ok (.iconst 1, 1) := ld lc8 15 (en := (531, .iconst 1, 1)) rfl
theorem dl_532 : decode code 532 = .ok (.goto 4, 3) := ld lc8 16 (en := (532, .goto 4, 3)) rfl
theorem dl_535 : decode code 535 = .ok (.iconst 0, 1) := ld lc8 17 (en := (535, .iconst 0, 1)) rfl
theorem dl_536 : decode code 536 = .ok (.invokevirtual 61, 3) := ld lc8 18 (en := (536, .invokevirtual 61, 3)) rfl
theorem dl_539 : decode code 539 = .ok (.pop, 1) := ld lc8 19 (en := (539, .pop, 1)) rfl
theorem dl_540 : decode code 540 = .ok (.goto 651, 3) := ld lc8 20 (en := (540, .goto 651, 3)) rfl
theorem dl_543 : decode code 543 = .ok (.aload_n 1, 1) := ld lc8 21 (en := (543, .aload_n 1, 1)) rfl
theorem dl_544 : decode code 544 = .ok (.aload_n 0, 1) := ld lc8 22 (en := (544, .aload_n 0, 1)) rfl
theorem dl_545 : decode code 545 = .ok (.iload_n 3, 1) := ld lc8 23 (en := (545, .iload_n 3, 1)) rfl
theorem dl_546 : decode code 546 = .ok (.iconst 1, 1) := ld lc8 24 (en := (546, .iconst 1, 1)) rfl
theorem dl_547 : decode code 547 = .ok (.iadd, 1) := ld lc8 25 (en := (547, .iadd, 1)) rfl
theorem dl_548 : decode code 548 = .ok (.iaload, 1) := ld lc8 26 (en := (548, .iaload, 1)) rfl
theorem dl_549 : decode code 549 = .ok (.invokevirtual 62, 3) := ld lc8 27 (en := (549, .invokevirtual 62, 3)) rfl
theorem dl_552 : decode code 552 = .ok (.aload_n 2, 1) := ld lc8 28 (en := (552, .aload_n 2, 1)) rfl
theorem dl_553 : decode code 553 = .ok (.aload_n 0, 1) := ld lc8 29 (en := (553, .aload_n 0, 1)) rfl
theorem dl_554 : decode code 554 = .ok (.iload_n 3, 1) := ld lc8 30 (en := (554, .iload_n 3, 1)) rfl
theorem dl_555 : decode code 555 = .ok (.iconst 1, 1) := ld lc8 31 (en := (555, .iconst 1, 1)) rfl
theorem dl_556 : decode code 556 = .ok (.iadd, 1) := ld lc8 32 (en := (556, .iadd, 1)) rfl
theorem dl_557 : decode code 557 = .ok (.iaload, 1) := ld lc8 33 (en := (557, .iaload, 1)) rfl
theorem dl_558 : decode code 558 = .ok (.invokevirtual 65, 3) := ld lc8 34 (en := (558, .invokevirtual 65, 3)) rfl
theorem dl_561 : decode code 561 = .ok (.if_icmp .eq 630, 3) := ld lc8 35 (en := (561, .if_icmp .eq 630, 3)) rfl
theorem dl_564 : decode code 564 = .ok (.iconst 0, 1) := ld lc8 36 (en := (564, .iconst 0, 1)) rfl
theorem dl_565 : decode code 565 = .ok (.ireturn, 1) := ld lc8 37 (en := (565, .ireturn, 1)) rfl
theorem dl_566 : decode code 566 = .ok (.aload_n 1, 1) := ld lc8 38 (en := (566, .aload_n 1, 1)) rfl
theorem dl_567 : decode code 567 = .ok (.invokevirtual 66, 3) := ld lc8 39 (en := (567, .invokevirtual 66, 3)) rfl
theorem dl_570 : decode code 570 = .ok (.pop, 1) := ld lc8 40 (en := (570, .pop, 1)) rfl
theorem dl_571 : decode code 571 = .ok (.aload_n 2, 1) := ld lc8 41 (en := (571, .aload_n 2, 1)) rfl
theorem dl_572 : decode code 572 = .ok (.invokevirtual 70, 3) := ld lc8 42 (en := (572, .invokevirtual 70, 3)) rfl
theorem dl_575 : decode code 575 = .ok (.pop, 1) := ld lc8 43 (en := (575, .pop, 1)) rfl
theorem dl_576 : decode code 576 = .ok (.goto 615, 3) := ld lc9 0 (en := (576, .goto 615, 3)) rfl
theorem dl_579 : decode code 579 = .ok (.aload_n 1, 1) := ld lc9 1 (en := (579, .aload_n 1, 1)) rfl
theorem dl_580 : decode code 580 = .ok (.aload_n 0, 1) := ld lc9 2 (en := (580, .aload_n 0, 1)) rfl
theorem dl_581 : decode code 581 = .ok (.iload_n 3, 1) := ld lc9 3 (en := (581, .iload_n 3, 1)) rfl
theorem dl_582 : decode code 582 = .ok (.iconst 1, 1) := ld lc9 4 (en := (582, .iconst 1, 1)) rfl
theorem dl_583 : decode code 583 = .ok (.iadd, 1) := ld lc9 5 (en := (583, .iadd, 1)) rfl
theorem dl_584 : decode code 584 = .ok (.iaload, 1) := ld lc9 6 (en := (584, .iaload, 1)) rfl
theorem dl_585 : decode code 585 = .ok (.aload_n 0, 1) := ld lc9 7 (en := (585, .aload_n 0, 1)) rfl
theorem dl_586 : decode code 586 = .ok (.iload_n 3, 1) := ld lc9 8 (en := (586, .iload_n 3, 1)) rfl
theorem dl_587 : decode code 587 = .ok (.iconst 2, 1) := ld lc9 9 (en := (587, .iconst 2, 1)) rfl
theorem dl_588 : decode code 588 = .ok (.iadd, 1) := ld lc9 10 (en := (588, .iadd, 1)) rfl
theorem dl_589 : decode code 589 = .ok (.iaload, 1) := ld lc9 11 (en := (589, .iaload, 1)) rfl
theorem dl_590 : decode code 590 = .ok (.invokevirtual 71, 3) := ld lc9 12 (en := (590, .invokevirtual 71, 3)) rfl
theorem dl_593 : decode code 593 = .ok (.pop, 1) := ld lc9 13 (en := (593, .pop, 1)) rfl
theorem dl_594 : decode code 594 = .ok (.aload_n 2, 1) := ld lc9 14 (en := (594, .aload_n 2, 1)) rfl
theorem dl_595 : decode code 595 = .ok (.aload_n 0, 1) := ld lc9 15 (en := (595, .aload_n 0, 1)) rfl
theorem dl_596 : decode code 596 = .ok (.iload_n 3, 1) := ld lc9 16 (en := (596, .iload_n 3, 1)) rfl
theorem dl_597 : decode code 597 = .ok (.iconst 1, 1) := ld lc9 17 (en := (597, .iconst 1, 1)) rfl
theorem dl_598 : decode code 598 = .ok (.iadd, 1) := ld lc9 18 (en := (598, .iadd, 1)) rfl
theorem dl_599 : decode code 599 = .ok (.iaload, 1) := ld lc9 19 (en := (599, .iaload, 1)) rfl
theorem dl_600 : decode code 600 = .ok (.aload_n 0, 1) := ld lc9 20 (en := (600, .aload_n 0, 1)) rfl
theorem dl_601 : decode code 601 = .ok (.iload_n 3, 1) := ld lc9 21 (en := (601, .iload_n 3, 1)) rfl
theorem dl_602 : decode code 602 = .ok (.iconst 2, 1) := ld lc9 22 (en := (602, .iconst 2, 1)) rfl
theorem dl_603 : decode code 603 = .ok (.iadd, 1) := ld lc9 23 (en := (603, .iadd, 1)) rfl
theorem dl_604 : decode code 604 = .ok (.iaload, 1) := ld lc9 24 (en := (604, .iaload, 1)) rfl
theorem dl_605 : decode code 605 = .ok (.invokevirtual 74, 3) := ld lc9 25 (en := (605, .invokevirtual 74, 3)) rfl
theorem dl_608 : decode code 608 = .ok (.pop, 1) := ld lc9 26 (en := (608, .pop, 1)) rfl
theorem dl_609 : decode code 609 = .ok (.goto 582, 3) := ld lc9 27 (en := (609, .goto 582, 3)) rfl
theorem dl_612 : decode code 612 = .ok (.aload_n 1, 1) := ld lc9 28 (en := (612, .aload_n 1, 1)) rfl
theorem dl_613 : decode code 613 = .ok (.aload_n 0, 1) := ld lc9 29 (en := (613, .aload_n 0, 1)) rfl
theorem dl_614 : decode code 614 = .ok (.iload_n 3, 1) := ld lc9 30 (en := (614, .iload_n 3, 1)) rfl
theorem dl_615 : decode code 615 = .ok (.iconst 1, 1) := ld lc9 31 (en := (615, .iconst 1, 1)) rfl
theorem dl_616 : decode code 616 = .ok (.iadd, 1) := ld lc9 32 (en := (616, .iadd, 1)) rfl
theorem dl_617 : decode code 617 = .ok (.iaload, 1) := ld lc9 33 (en := (617, .iaload, 1)) rfl
theorem dl_618 : decode code 618 = .ok (.aload_n 0, 1) := ld lc9 34 (en := (618, .aload_n 0, 1)) rfl
theorem dl_619 : decode code 619 = .ok (.iload_n 3, 1) := ld lc9 35 (en := (619, .iload_n 3, 1)) rfl
theorem dl_620 : decode code 620 = .ok (.iconst 2, 1) := ld lc9 36 (en := (620, .iconst 2, 1)) rfl
theorem dl_621 : decode code 621 = .ok (.iadd, 1) := ld lc9 37 (en := (621, .iadd, 1)) rfl
theorem dl_622 : decode code 622 = .ok (.iaload, 1) := ld lc9 38 (en := (622, .iaload, 1)) rfl
theorem dl_623 : decode code 623 = .ok (.aload_n 0, 1) := ld lc9 39 (en := (623, .aload_n 0, 1)) rfl
theorem dl_624 : decode code 624 = .ok (.iload_n 3, 1) := ld lc9 40 (en := (624, .iload_n 3, 1)) rfl
theorem dl_625 : decode code 625 = .ok (.iconst 3, 1) := ld lc9 41 (en := (625, .iconst 3, 1)) rfl
theorem dl_626 : decode code 626 = .ok (.iadd, 1) := ld lc9 42 (en := (626, .iadd, 1)) rfl
theorem dl_627 : decode code 627 = .ok (.iaload, 1) := ld lc9 43 (en := (627, .iaload, 1)) rfl
theorem dl_628 : decode code 628 = .ok (.invokevirtual 75, 3) := ld lc9 44 (en := (628, .invokevirtual 75, 3)) rfl
theorem dl_631 : decode code 631 = .ok (.pop, 1) := ld lc9 45 (en := (631, .pop, 1)) rfl
theorem dl_632 : decode code 632 = .ok (.aload_n 2, 1) := ld lc9 46 (en := (632, .aload_n 2, 1)) rfl
theorem dl_633 : decode code 633 = .ok (.aload_n 0, 1) := ld lc9 47 (en := (633, .aload_n 0, 1)) rfl
theorem dl_634 : decode code 634 = .ok (.iload_n 3, 1) := ld lc9 48 (en := (634, .iload_n 3, 1)) rfl
theorem dl_635 : decode code 635 = .ok (.iconst 1, 1) := ld lc9 49 (en := (635, .iconst 1, 1)) rfl
theorem dl_636 : decode code 636 = .ok (.iadd, 1) := ld lc9 50 (en := (636, .iadd, 1)) rfl
theorem dl_637 : decode code 637 = .ok (.iaload, 1) := ld lc9 51 (en := (637, .iaload, 1)) rfl
theorem dl_638 : decode code 638 = .ok (.aload_n 0, 1) := ld lc9 52 (en := (638, .aload_n 0, 1)) rfl
theorem dl_639 : decode code 639 = .ok (.iload_n 3, 1) := ld lc9 53 (en := (639, .iload_n 3, 1)) rfl
theorem dl_640 : decode code 640 = .ok (.iconst 2, 1) := ld lc10 0 (en := (640, .iconst 2, 1)) rfl
theorem dl_641 : decode code 641 = .ok (.iadd, 1) := ld lc10 1 (en := (641, .iadd, 1)) rfl
theorem dl_642 : decode code 642 = .ok (.iaload, 1) := ld lc10 2 (en := (642, .iaload, 1)) rfl
theorem dl_643 : decode code 643 = .ok (.aload_n 0, 1) := ld lc10 3 (en := (643, .aload_n 0, 1)) rfl
theorem dl_644 : decode code 644 = .ok (.iload_n 3, 1) := ld lc10 4 (en := (644, .iload_n 3, 1)) rfl
theorem dl_645 : decode code 645 = .ok (.iconst 3, 1) := ld lc10 5 (en := (645, .iconst 3, 1)) rfl
theorem dl_646 : decode code 646 = .ok (.iadd, 1) := ld lc10 6 (en := (646, .iadd, 1)) rfl
theorem dl_647 : decode code 647 = .ok (.iaload, 1) := ld lc10 7 (en := (647, .iaload, 1)) rfl
theorem dl_648 : decode code 648 = .ok (.invokevirtual 79, 3) := ld lc10 8 (en := (648, .invokevirtual 79, 3)) rfl
theorem dl_651 : decode code 651 = .ok (.pop, 1) := ld lc10 9 (en := (651, .pop, 1)) rfl
theorem dl_652 : decode code 652 = .ok (.goto 539, 3) := ld lc10 10 (en := (652, .goto 539, 3)) rfl
theorem dl_655 : decode code 655 = .ok (.aload_n 1, 1) := ld lc10 11 (en := (655, .aload_n 1, 1)) rfl
theorem dl_656 : decode code 656 = .ok (.aload_n 0, 1) := ld lc10 12 (en := (656, .aload_n 0, 1)) rfl
theorem dl_657 : decode code 657 = .ok (.iload_n 3, 1) := ld lc10 13 (en := (657, .iload_n 3, 1)) rfl
theorem dl_658 : decode code 658 = .ok (.iconst 1, 1) := ld lc10 14 (en := (658, .iconst 1, 1)) rfl
theorem dl_659 : decode code 659 = .ok (.iadd, 1) := ld lc10 15 (en := (659, .iadd, 1)) rfl
theorem dl_660 : decode code 660 = .ok (.iaload, 1) := ld lc10 16 (en := (660, .iaload, 1)) rfl
theorem dl_661 : decode code 661 = .ok (.invokevirtual 80, 3) := ld lc10 17 (en := (661, .invokevirtual 80, 3)) rfl
theorem dl_664 : decode code 664 = .ok (.pop, 1) := ld lc10 18 (en := (664, .pop, 1)) rfl
theorem dl_665 : decode code 665 = .ok (.aload_n 2, 1) := ld lc10 19 (en := (665, .aload_n 2, 1)) rfl
theorem dl_666 : decode code 666 = .ok (.aload_n 0, 1) := ld lc10 20 (en := (666, .aload_n 0, 1)) rfl
theorem dl_667 : decode code 667 = .ok (.iload_n 3, 1) := ld lc10 21 (en := (667, .iload_n 3, 1)) rfl
theorem dl_668 : decode code 668 = .ok (.iconst 1, 1) := ld lc10 22 (en := (668, .iconst 1, 1)) rfl
theorem dl_669 : decode code 669 = .ok (.iadd, 1) := ld lc10 23 (en := (669, .iadd, 1)) rfl
theorem dl_670 : decode code 670 = .ok (.iaload, 1) := ld lc10 24 (en := (670, .iaload, 1)) rfl
theorem dl_671 : decode code 671 = .ok (.invokevirtual 83, 3) := ld lc10 25 (en := (671, .invokevirtual 83, 3)) rfl
theorem dl_674 : decode code 674 = .ok (.pop, 1) := ld lc10 26 (en := (674, .pop, 1)) rfl
theorem dl_675 : decode code 675 = .ok (.goto 516, 3) := ld lc10 27 (en := (675, .goto 516, 3)) rfl
theorem dl_678 : decode code 678 = .ok (.aload_n 1, 1) := ld lc10 28 (en := (678, .aload_n 1, 1)) rfl
theorem dl_679 : decode code 679 = .ok (.aload_n 0, 1) := ld lc10 29 (en := (679, .aload_n 0, 1)) rfl
theorem dl_680 : decode code 680 = .ok (.iload_n 3, 1) := ld lc10 30 (en := (680, .iload_n 3, 1)) rfl
theorem dl_681 : decode code 681 = .ok (.iconst 1, 1) := ld lc10 31 (en := (681, .iconst 1, 1)) rfl
theorem dl_682 : decode code 682 = .ok (.iadd, 1) := ld lc10 32 (en := (682, .iadd, 1)) rfl
theorem dl_683 : decode code 683 = .ok (.iaload, 1) := ld lc10 33 (en := (683, .iaload, 1)) rfl
theorem dl_684 : decode code 684 = .ok (.invokevirtual 84, 3) := ld lc10 34 (en := (684, .invokevirtual 84, 3)) rfl
theorem dl_687 : decode code 687 = .ok (.pop, 1) := ld lc10 35 (en := (687, .pop, 1)) rfl
theorem dl_688 : decode code 688 = .ok (.aload_n 2, 1) := ld lc10 36 (en := (688, .aload_n 2, 1)) rfl
theorem dl_689 : decode code 689 = .ok (.aload_n 0, 1) := ld lc10 37 (en := (689, .aload_n 0, 1)) rfl
theorem dl_690 : decode code 690 = .ok (.iload_n 3, 1) := ld lc10 38 (en := (690, .iload_n 3, 1)) rfl
theorem dl_691 : decode code 691 = .ok (.iconst 1, 1) := ld lc10 39 (en := (691, .iconst 1, 1)) rfl
theorem dl_692 : decode code 692 = .ok (.iadd, 1) := ld lc10 40 (en := (692, .iadd, 1)) rfl
theorem dl_693 : decode code 693 = .ok (.iaload, 1) := ld lc10 41 (en := (693, .iaload, 1)) rfl
theorem dl_694 : decode code 694 = .ok (.invokevirtual 87, 3) := ld lc10 42 (en := (694, .invokevirtual 87, 3)) rfl
theorem dl_697 : decode code 697 = .ok (.pop, 1) := ld lc10 43 (en := (697, .pop, 1)) rfl
theorem dl_698 : decode code 698 = .ok (.goto 493, 3) := ld lc10 44 (en := (698, .goto 493, 3)) rfl
theorem dl_701 : decode code 701 = .ok (.aload_n 1, 1) := ld lc10 45 (en := (701, .aload_n 1, 1)) rfl
theorem dl_702 : decode code 702 = .ok (.aload_n 0, 1) := ld lc10 46 (en := (702, .aload_n 0, 1)) rfl
theorem dl_703 : decode code 703 = .ok (.iload_n 3, 1) := ld lc10 47 (en := (703, .iload_n 3, 1)) rfl
theorem dl_704 : decode code 704 = .ok (.iconst 1, 1) := ld lc11 0 (en := (704, .iconst 1, 1)) rfl
theorem dl_705 : decode code 705 = .ok (.iadd, 1) := ld lc11 1 (en := (705, .iadd, 1)) rfl
theorem dl_706 : decode code 706 = .ok (.iaload, 1) := ld lc11 2 (en := (706, .iaload, 1)) rfl
theorem dl_707 : decode code 707 = .ok (.invokevirtual 88, 3) := ld lc11 3 (en := (707, .invokevirtual 88, 3)) rfl
theorem dl_710 : decode code 710 = .ok (.pop, 1) := ld lc11 4 (en := (710, .pop, 1)) rfl
theorem dl_711 : decode code 711 = .ok (.aload_n 2, 1) := ld lc11 5 (en := (711, .aload_n 2, 1)) rfl
theorem dl_712 : decode code 712 = .ok (.aload_n 0, 1) := ld lc11 6 (en := (712, .aload_n 0, 1)) rfl
theorem dl_713 : decode code 713 = .ok (.iload_n 3, 1) := ld lc11 7 (en := (713, .iload_n 3, 1)) rfl
theorem dl_714 : decode code 714 = .ok (.iconst 1, 1) := ld lc11 8 (en := (714, .iconst 1, 1)) rfl
theorem dl_715 : decode code 715 = .ok (.iadd, 1) := ld lc11 9 (en := (715, .iadd, 1)) rfl
theorem dl_716 : decode code 716 = .ok (.iaload, 1) := ld lc11 10 (en := (716, .iaload, 1)) rfl
theorem dl_717 : decode code 717 = .ok (.invokevirtual 91, 3) := ld lc11 11 (en := (717, .invokevirtual 91, 3)) rfl
theorem dl_720 : decode code 720 = .ok (.pop, 1) := ld lc11 12 (en := (720, .pop, 1)) rfl
theorem dl_721 : decode code 721 = .ok (.goto 470, 3) := ld lc11 13 (en := (721, .goto 470, 3)) rfl
theorem dl_724 : decode code 724 = .ok (.aload_n 1, 1) := ld lc11 14 (en := (724, .aload_n 1, 1)) rfl
theorem dl_725 : decode code 725 = .ok (.aload_n 0, 1) := ld lc11 15 (en := (725, .aload_n 0, 1)) rfl
theorem dl_726 : decode code 726 = .ok (.iload_n 3, 1) := ld lc11 16 (en := (726, .iload_n 3, 1)) rfl
theorem dl_727 : decode code 727 = .ok (.iconst 1, 1) := ld lc11 17 (en := (727, .iconst 1, 1)) rfl
theorem dl_728 : decode code 728 = .ok (.iadd, 1) := ld lc11 18 (en := (728, .iadd, 1)) rfl
theorem dl_729 : decode code 729 = .ok (.iaload, 1) := ld lc11 19 (en := (729, .iaload, 1)) rfl
theorem dl_730 : decode code 730 = .ok (.invokevirtual 92, 3) := ld lc11 20 (en := (730, .invokevirtual 92, 3)) rfl
theorem dl_733 : decode code 733 = .ok (.pop, 1) := ld lc11 21 (en := (733, .pop, 1)) rfl
theorem dl_734 : decode code 734 = .ok (.aload_n 2, 1) := ld lc11 22 (en := (734, .aload_n 2, 1)) rfl
theorem dl_735 : decode code 735 = .ok (.aload_n 0, 1) := ld lc11 23 (en := (735, .aload_n 0, 1)) rfl
theorem dl_736 : decode code 736 = .ok (.iload_n 3, 1) := ld lc11 24 (en := (736, .iload_n 3, 1)) rfl
theorem dl_737 : decode code 737 = .ok (.iconst 1, 1) := ld lc11 25 (en := (737, .iconst 1, 1)) rfl
theorem dl_738 : decode code 738 = .ok (.iadd, 1) := ld lc11 26 (en := (738, .iadd, 1)) rfl
theorem dl_739 : decode code 739 = .ok (.iaload, 1) := ld lc11 27 (en := (739, .iaload, 1)) rfl
theorem dl_740 : decode code 740 = .ok (.invokevirtual 95, 3) := ld lc11 28 (en := (740, .invokevirtual 95, 3)) rfl
theorem dl_743 : decode code 743 = .ok (.pop, 1) := ld lc11 29 (en := (743, .pop, 1)) rfl
theorem dl_744 : decode code 744 = .ok (.goto 447, 3) := ld lc11 30 (en := (744, .goto 447, 3)) rfl
theorem dl_747 : decode code 747 = .ok (.aload_n 1, 1) := ld lc11 31 (en := (747, .aload_n 1, 1)) rfl
theorem dl_748 : decode code 748 = .ok (.aload_n 0, 1) := ld lc11 32 (en := (748, .aload_n 0, 1)) rfl
theorem dl_749 : decode code 749 = .ok (.iload_n 3, 1) := ld lc11 33 (en := (749, .iload_n 3, 1)) rfl
theorem dl_750 : decode code 750 = .ok (.iconst 1, 1) := ld lc11 34 (en := (750, .iconst 1, 1)) rfl
theorem dl_751 : decode code 751 = .ok (.iadd, 1) := ld lc11 35 (en := (751, .iadd, 1)) rfl
theorem dl_752 : decode code 752 = .ok (.iaload, 1) := ld lc11 36 (en := (752, .iaload, 1)) rfl
theorem dl_753 : decode code 753 = .ok (.aload_n 0, 1) := ld lc11 37 (en := (753, .aload_n 0, 1)) rfl
theorem dl_754 : decode code 754 = .ok (.iload_n 3, 1) := ld lc11 38 (en := (754, .iload_n 3, 1)) rfl
theorem dl_755 : decode code 755 = .ok (.iconst 2, 1) := ld lc11 39 (en := (755, .iconst 2, 1)) rfl
theorem dl_756 : decode code 756 = .ok (.iadd, 1) := ld lc11 40 (en := (756, .iadd, 1)) rfl
theorem dl_757 : decode code 757 = .ok (.iaload, 1) := ld lc11 41 (en := (757, .iaload, 1)) rfl
theorem dl_758 : decode code 758 = .ok (.invokevirtual 96, 3) := ld lc11 42 (en := (758, .invokevirtual 96, 3)) rfl
theorem dl_761 : decode code 761 = .ok (.pop, 1) := ld lc11 43 (en := (761, .pop, 1)) rfl
theorem dl_762 : decode code 762 = .ok (.aload_n 2, 1) := ld lc11 44 (en := (762, .aload_n 2, 1)) rfl
theorem dl_763 : decode code 763 = .ok (.aload_n 0, 1) := ld lc11 45 (en := (763, .aload_n 0, 1)) rfl
theorem dl_764 : decode code 764 = .ok (.iload_n 3, 1) := ld lc11 46 (en := (764, .iload_n 3, 1)) rfl
theorem dl_765 : decode code 765 = .ok (.iconst 1, 1) := ld lc11 47 (en := (765, .iconst 1, 1)) rfl
theorem dl_766 : decode code 766 = .ok (.iadd, 1) := ld lc11 48 (en := (766, .iadd, 1)) rfl
theorem dl_767 : decode code 767 = .ok (.iaload, 1) := ld lc11 49 (en := (767, .iaload, 1)) rfl
theorem dl_768 : decode code 768 = .ok (.aload_n 0, 1) := ld lc12 0 (en := (768, .aload_n 0, 1)) rfl
theorem dl_769 : decode code 769 = .ok (.iload_n 3, 1) := ld lc12 1 (en := (769, .iload_n 3, 1)) rfl
theorem dl_770 : decode code 770 = .ok (.iconst 2, 1) := ld lc12 2 (en := (770, .iconst 2, 1)) rfl
theorem dl_771 : decode code 771 = .ok (.iadd, 1) := ld lc12 3 (en := (771, .iadd, 1)) rfl
theorem dl_772 : decode code 772 = .ok (.iaload, 1) := ld lc12 4 (en := (772, .iaload, 1)) rfl
theorem dl_773 : decode code 773 = .ok (.invokevirtual 99, 3) := ld lc12 5 (en := (773, .invokevirtual 99, 3)) rfl
theorem dl_776 : decode code 776 = .ok (.pop, 1) := ld lc12 6 (en := (776, .pop, 1)) rfl
theorem dl_777 : decode code 777 = .ok (.goto 414, 3) := ld lc12 7 (en := (777, .goto 414, 3)) rfl
theorem dl_780 : decode code 780 = .ok (.aload_n 1, 1) := ld lc12 8 (en := (780, .aload_n 1, 1)) rfl
theorem dl_781 : decode code 781 = .ok (.aload_n 0, 1) := ld lc12 9 (en := (781, .aload_n 0, 1)) rfl
theorem dl_782 : decode code 782 = .ok (.iload_n 3, 1) := ld lc12 10 (en := (782, .iload_n 3, 1)) rfl
theorem dl_783 : decode code 783 = .ok (.iconst 1, 1) := ld lc12 11 (en := (783, .iconst 1, 1)) rfl
theorem dl_784 : decode code 784 = .ok (.iadd, 1) := ld lc12 12 (en := (784, .iadd, 1)) rfl
theorem dl_785 : decode code 785 = .ok (.iaload, 1) := ld lc12 13 (en := (785, .iaload, 1)) rfl
theorem dl_786 : decode code 786 = .ok (.aload_n 0, 1) := ld lc12 14 (en := (786, .aload_n 0, 1)) rfl
theorem dl_787 : decode code 787 = .ok (.iload_n 3, 1) := ld lc12 15 (en := (787, .iload_n 3, 1)) rfl
theorem dl_788 : decode code 788 = .ok (.iconst 2, 1) := ld lc12 16 (en := (788, .iconst 2, 1)) rfl
theorem dl_789 : decode code 789 = .ok (.iadd, 1) := ld lc12 17 (en := (789, .iadd, 1)) rfl
theorem dl_790 : decode code 790 = .ok (.iaload, 1) := ld lc12 18 (en := (790, .iaload, 1)) rfl
theorem dl_791 : decode code 791 = .ok (.invokevirtual 100, 3) := ld lc12 19 (en := (791, .invokevirtual 100, 3)) rfl
theorem dl_794 : decode code 794 = .ok (.pop, 1) := ld lc12 20 (en := (794, .pop, 1)) rfl
theorem dl_795 : decode code 795 = .ok (.aload_n 2, 1) := ld lc12 21 (en := (795, .aload_n 2, 1)) rfl
theorem dl_796 : decode code 796 = .ok (.aload_n 0, 1) := ld lc12 22 (en := (796, .aload_n 0, 1)) rfl
theorem dl_797 : decode code 797 = .ok (.iload_n 3, 1) := ld lc12 23 (en := (797, .iload_n 3, 1)) rfl
theorem dl_798 : decode code 798 = .ok (.iconst 1, 1) := ld lc12 24 (en := (798, .iconst 1, 1)) rfl
theorem dl_799 : decode code 799 = .ok (.iadd, 1) := ld lc12 25 (en := (799, .iadd, 1)) rfl
theorem dl_800 : decode code 800 = .ok (.iaload, 1) := ld lc12 26 (en := (800, .iaload, 1)) rfl
theorem dl_801 : decode code 801 = .ok (.aload_n 0, 1) := ld lc12 27 (en := (801, .aload_n 0, 1)) rfl
theorem dl_802 : decode code 802 = .ok (.iload_n 3, 1) := ld lc12 28 (en := (802, .iload_n 3, 1)) rfl
theorem dl_803 : decode code 803 = .ok (.iconst 2, 1) := ld lc12 29 (en := (803, .iconst 2, 1)) rfl
theorem dl_804 : decode code 804 = .ok (.iadd, 1) := ld lc12 30 (en := (804, .iadd, 1)) rfl
theorem dl_805 : decode code 805 = .ok (.iaload, 1) := ld lc12 31 (en := (805, .iaload, 1)) rfl
theorem dl_806 : decode code 806 = .ok (.invokevirtual 103, 3) := ld lc12 32 (en := (806, .invokevirtual 103, 3)) rfl
theorem dl_809 : decode code 809 = .ok (.pop, 1) := ld lc12 33 (en := (809, .pop, 1)) rfl
theorem dl_810 : decode code 810 = .ok (.goto 381, 3) := ld lc12 34 (en := (810, .goto 381, 3)) rfl
theorem dl_813 : decode code 813 = .ok (.aload_n 1, 1) := ld lc12 35 (en := (813, .aload_n 1, 1)) rfl
theorem dl_814 : decode code 814 = .ok (.aload_n 0, 1) := ld lc12 36 (en := (814, .aload_n 0, 1)) rfl
theorem dl_815 : decode code 815 = .ok (.iload_n 3, 1) := ld lc12 37 (en := (815, .iload_n 3, 1)) rfl
theorem dl_816 : decode code 816 = .ok (.iconst 1, 1) := ld lc12 38 (en := (816, .iconst 1, 1)) rfl
theorem dl_817 : decode code 817 = .ok (.iadd, 1) := ld lc12 39 (en := (817, .iadd, 1)) rfl
theorem dl_818 : decode code 818 = .ok (.iaload, 1) := ld lc12 40 (en := (818, .iaload, 1)) rfl
theorem dl_819 : decode code 819 = .ok (.invokevirtual 104, 3) := ld lc12 41 (en := (819, .invokevirtual 104, 3)) rfl
theorem dl_822 : decode code 822 = .ok (.pop, 1) := ld lc12 42 (en := (822, .pop, 1)) rfl
theorem dl_823 : decode code 823 = .ok (.aload_n 2, 1) := ld lc12 43 (en := (823, .aload_n 2, 1)) rfl
theorem dl_824 : decode code 824 = .ok (.aload_n 0, 1) := ld lc12 44 (en := (824, .aload_n 0, 1)) rfl
theorem dl_825 : decode code 825 = .ok (.iload_n 3, 1) := ld lc12 45 (en := (825, .iload_n 3, 1)) rfl
theorem dl_826 : decode code 826 = .ok (.iconst 1, 1) := ld lc12 46 (en := (826, .iconst 1, 1)) rfl
theorem dl_827 : decode code 827 = .ok (.iadd, 1) := ld lc12 47 (en := (827, .iadd, 1)) rfl
theorem dl_828 : decode code 828 = .ok (.iaload, 1) := ld lc12 48 (en := (828, .iaload, 1)) rfl
theorem dl_829 : decode code 829 = .ok (.invokevirtual 107, 3) := ld lc12 49 (en := (829, .invokevirtual 107, 3)) rfl
theorem dl_832 : decode code 832 = .ok (.pop, 1) := ld lc13 0 (en := (832, .pop, 1)) rfl
theorem dl_833 : decode code 833 = .ok (.goto 358, 3) := ld lc13 1 (en := (833, .goto 358, 3)) rfl
theorem dl_836 : decode code 836 = .ok (.aload_n 1, 1) := ld lc13 2 (en := (836, .aload_n 1, 1)) rfl
theorem dl_837 : decode code 837 = .ok (.invokevirtual 108, 3) := ld lc13 3 (en := (837, .invokevirtual 108, 3)) rfl
theorem dl_840 : decode code 840 = .ok (.pop, 1) := ld lc13 4 (en := (840, .pop, 1)) rfl
theorem dl_841 : decode code 841 = .ok (.aload_n 2, 1) := ld lc13 5 (en := (841, .aload_n 2, 1)) rfl
theorem dl_842 : decode code 842 = .ok (.invokevirtual 111, 3) := ld lc13 6 (en := (842, .invokevirtual 111, 3)) rfl
theorem dl_845 : decode code 845 = .ok (.pop, 1) := ld lc13 7 (en := (845, .pop, 1)) rfl
theorem dl_846 : decode code 846 = .ok (.goto 345, 3) := ld lc13 8 (en := (846, .goto 345, 3)) rfl
theorem dl_849 : decode code 849 = .ok (.aload_n 1, 1) := ld lc13 9 (en := (849, .aload_n 1, 1)) rfl
theorem dl_850 : decode code 850 = .ok (.aload_n 0, 1) := ld lc13 10 (en := (850, .aload_n 0, 1)) rfl
theorem dl_851 : decode code 851 = .ok (.iload_n 3, 1) := ld lc13 11 (en := (851, .iload_n 3, 1)) rfl
theorem dl_852 : decode code 852 = .ok (.iconst 1, 1) := ld lc13 12 (en := (852, .iconst 1, 1)) rfl
theorem dl_853 : decode code 853 = .ok (.iadd, 1) := ld lc13 13 (en := (853, .iadd, 1)) rfl
theorem dl_854 : decode code 854 = .ok (.iaload, 1) := ld lc13 14 (en := (854, .iaload, 1)) rfl
theorem dl_855 : decode code 855 = .ok (.invokevirtual 112, 3) := ld lc13 15 (en := (855, .invokevirtual 112, 3)) rfl
theorem dl_858 : decode code 858 = .ok (.pop, 1) := ld lc13 16 (en := (858, .pop, 1)) rfl
theorem dl_859 : decode code 859 = .ok (.aload_n 2, 1) := ld lc13 17 (en := (859, .aload_n 2, 1)) rfl
theorem dl_860 : decode code 860 = .ok (.aload_n 0, 1) := ld lc13 18 (en := (860, .aload_n 0, 1)) rfl
theorem dl_861 : decode code 861 = .ok (.iload_n 3, 1) := ld lc13 19 (en := (861, .iload_n 3, 1)) rfl
theorem dl_862 : decode code 862 = .ok (.iconst 1, 1) := ld lc13 20 (en := (862, .iconst 1, 1)) rfl
theorem dl_863 : decode code 863 = .ok (.iadd, 1) := ld lc13 21 (en := (863, .iadd, 1)) rfl
theorem dl_864 : decode code 864 = .ok (.iaload, 1) := ld lc13 22 (en := (864, .iaload, 1)) rfl
theorem dl_865 : decode code 865 = .ok (.invokevirtual 115, 3) := ld lc13 23 (en := (865, .invokevirtual 115, 3)) rfl
theorem dl_868 : decode code 868 = .ok (.pop, 1) := ld lc13 24 (en := (868, .pop, 1)) rfl
theorem dl_869 : decode code 869 = .ok (.goto 322, 3) := ld lc13 25 (en := (869, .goto 322, 3)) rfl
theorem dl_872 : decode code 872 = .ok (.aload_n 1, 1) := ld lc13 26 (en := (872, .aload_n 1, 1)) rfl
theorem dl_873 : decode code 873 = .ok (.aload_n 0, 1) := ld lc13 27 (en := (873, .aload_n 0, 1)) rfl
theorem dl_874 : decode code 874 = .ok (.iload_n 3, 1) := ld lc13 28 (en := (874, .iload_n 3, 1)) rfl
theorem dl_875 : decode code 875 = .ok (.iconst 1, 1) := ld lc13 29 (en := (875, .iconst 1, 1)) rfl
theorem dl_876 : decode code 876 = .ok (.iadd, 1) := ld lc13 30 (en := (876, .iadd, 1)) rfl
theorem dl_877 : decode code 877 = .ok (.iaload, 1) := ld lc13 31 (en := (877, .iaload, 1)) rfl
theorem dl_878 : decode code 878 = .ok (.aload_n 0, 1) := ld lc13 32 (en := (878, .aload_n 0, 1)) rfl
theorem dl_879 : decode code 879 = .ok (.iload_n 3, 1) := ld lc13 33 (en := (879, .iload_n 3, 1)) rfl
theorem dl_880 : decode code 880 = .ok (.iconst 2, 1) := ld lc13 34 (en := (880, .iconst 2, 1)) rfl
theorem dl_881 : decode code 881 = .ok (.iadd, 1) := ld lc13 35 (en := (881, .iadd, 1)) rfl
theorem dl_882 : decode code 882 = .ok (.iaload, 1) := ld lc13 36 (en := (882, .iaload, 1)) rfl
theorem dl_883 : decode code 883 = .ok (.invokevirtual 116, 3) := ld lc13 37 (en := (883, .invokevirtual 116, 3)) rfl
theorem dl_886 : decode code 886 = .ok (.pop, 1) := ld lc13 38 (en := (886, .pop, 1)) rfl
theorem dl_887 : decode code 887 = .ok (.aload_n 2, 1) := ld lc13 39 (en := (887, .aload_n 2, 1)) rfl
theorem dl_888 : decode code 888 = .ok (.aload_n 0, 1) := ld lc13 40 (en := (888, .aload_n 0, 1)) rfl
theorem dl_889 : decode code 889 = .ok (.iload_n 3, 1) := ld lc13 41 (en := (889, .iload_n 3, 1)) rfl
theorem dl_890 : decode code 890 = .ok (.iconst 1, 1) := ld lc13 42 (en := (890, .iconst 1, 1)) rfl
theorem dl_891 : decode code 891 = .ok (.iadd, 1) := ld lc13 43 (en := (891, .iadd, 1)) rfl
theorem dl_892 : decode code 892 = .ok (.iaload, 1) := ld lc13 44 (en := (892, .iaload, 1)) rfl
theorem dl_893 : decode code 893 = .ok (.aload_n 0, 1) := ld lc13 45 (en := (893, .aload_n 0, 1)) rfl
theorem dl_894 : decode code 894 = .ok (.iload_n 3, 1) := ld lc13 46 (en := (894, .iload_n 3, 1)) rfl
theorem dl_895 : decode code 895 = .ok (.iconst 2, 1) := ld lc13 47 (en := (895, .iconst 2, 1)) rfl
theorem dl_896 : decode code 896 = .ok (.iadd, 1) := ld lc14 0 (en := (896, .iadd, 1)) rfl
theorem dl_897 : decode code 897 = .ok (.iaload, 1) := ld lc14 1 (en := (897, .iaload, 1)) rfl
theorem dl_898 : decode code 898 = .ok (.invokevirtual 119, 3) := ld lc14 2 (en := (898, .invokevirtual 119, 3)) rfl
theorem dl_901 : decode code 901 = .ok (.pop, 1) := ld lc14 3 (en := (901, .pop, 1)) rfl
theorem dl_902 : decode code 902 = .ok (.goto 289, 3) := ld lc14 4 (en := (902, .goto 289, 3)) rfl
theorem dl_905 : decode code 905 = .ok (.aload_n 1, 1) := ld lc14 5 (en := (905, .aload_n 1, 1)) rfl
theorem dl_906 : decode code 906 = .ok (.aload_n 0, 1) := ld lc14 6 (en := (906, .aload_n 0, 1)) rfl
theorem dl_907 : decode code 907 = .ok (.iload_n 3, 1) := ld lc14 7 (en := (907, .iload_n 3, 1)) rfl
theorem dl_908 : decode code 908 = .ok (.iconst 1, 1) := ld lc14 8 (en := (908, .iconst 1, 1)) rfl
theorem dl_909 : decode code 909 = .ok (.iadd, 1) := ld lc14 9 (en := (909, .iadd, 1)) rfl
theorem dl_910 : decode code 910 = .ok (.iaload, 1) := ld lc14 10 (en := (910, .iaload, 1)) rfl
theorem dl_911 : decode code 911 = .ok (.aload_n 0, 1) := ld lc14 11 (en := (911, .aload_n 0, 1)) rfl
theorem dl_912 : decode code 912 = .ok (.iload_n 3, 1) := ld lc14 12 (en := (912, .iload_n 3, 1)) rfl
theorem dl_913 : decode code 913 = .ok (.iconst 2, 1) := ld lc14 13 (en := (913, .iconst 2, 1)) rfl
theorem dl_914 : decode code 914 = .ok (.iadd, 1) := ld lc14 14 (en := (914, .iadd, 1)) rfl
theorem dl_915 : decode code 915 = .ok (.iaload, 1) := ld lc14 15 (en := (915, .iaload, 1)) rfl
theorem dl_916 : decode code 916 = .ok (.invokevirtual 120, 3) := ld lc14 16 (en := (916, .invokevirtual 120, 3)) rfl
theorem dl_919 : decode code 919 = .ok (.pop, 1) := ld lc14 17 (en := (919, .pop, 1)) rfl
theorem dl_920 : decode code 920 = .ok (.aload_n 2, 1) := ld lc14 18 (en := (920, .aload_n 2, 1)) rfl
theorem dl_921 : decode code 921 = .ok (.aload_n 0, 1) := ld lc14 19 (en := (921, .aload_n 0, 1)) rfl
theorem dl_922 : decode code 922 = .ok (.iload_n 3, 1) := ld lc14 20 (en := (922, .iload_n 3, 1)) rfl
theorem dl_923 : decode code 923 = .ok (.iconst 1, 1) := ld lc14 21 (en := (923, .iconst 1, 1)) rfl
theorem dl_924 : decode code 924 = .ok (.iadd, 1) := ld lc14 22 (en := (924, .iadd, 1)) rfl
theorem dl_925 : decode code 925 = .ok (.iaload, 1) := ld lc14 23 (en := (925, .iaload, 1)) rfl
theorem dl_926 : decode code 926 = .ok (.aload_n 0, 1) := ld lc14 24 (en := (926, .aload_n 0, 1)) rfl
theorem dl_927 : decode code 927 = .ok (.iload_n 3, 1) := ld lc14 25 (en := (927, .iload_n 3, 1)) rfl
theorem dl_928 : decode code 928 = .ok (.iconst 2, 1) := ld lc14 26 (en := (928, .iconst 2, 1)) rfl
theorem dl_929 : decode code 929 = .ok (.iadd, 1) := ld lc14 27 (en := (929, .iadd, 1)) rfl
theorem dl_930 : decode code 930 = .ok (.iaload, 1) := ld lc14 28 (en := (930, .iaload, 1)) rfl
theorem dl_931 : decode code 931 = .ok (.invokevirtual 123, 3) := ld lc14 29 (en := (931, .invokevirtual 123, 3)) rfl
theorem dl_934 : decode code 934 = .ok (.pop, 1) := ld lc14 30 (en := (934, .pop, 1)) rfl
theorem dl_935 : decode code 935 = .ok (.goto 256, 3) := ld lc14 31 (en := (935, .goto 256, 3)) rfl
theorem dl_938 : decode code 938 = .ok (.aload_n 1, 1) := ld lc14 32 (en := (938, .aload_n 1, 1)) rfl
theorem dl_939 : decode code 939 = .ok (.aload_n 0, 1) := ld lc14 33 (en := (939, .aload_n 0, 1)) rfl
theorem dl_940 : decode code 940 = .ok (.iload_n 3, 1) := ld lc14 34 (en := (940, .iload_n 3, 1)) rfl
theorem dl_941 : decode code 941 = .ok (.iconst 1, 1) := ld lc14 35 (en := (941, .iconst 1, 1)) rfl
theorem dl_942 : decode code 942 = .ok (.iadd, 1) := ld lc14 36 (en := (942, .iadd, 1)) rfl
theorem dl_943 : decode code 943 = .ok (.iaload, 1) := ld lc14 37 (en := (943, .iaload, 1)) rfl
theorem dl_944 : decode code 944 = .ok (.aload_n 0, 1) := ld lc14 38 (en := (944, .aload_n 0, 1)) rfl
theorem dl_945 : decode code 945 = .ok (.iload_n 3, 1) := ld lc14 39 (en := (945, .iload_n 3, 1)) rfl
theorem dl_946 : decode code 946 = .ok (.iconst 2, 1) := ld lc14 40 (en := (946, .iconst 2, 1)) rfl
theorem dl_947 : decode code 947 = .ok (.iadd, 1) := ld lc14 41 (en := (947, .iadd, 1)) rfl
theorem dl_948 : decode code 948 = .ok (.iaload, 1) := ld lc14 42 (en := (948, .iaload, 1)) rfl
theorem dl_949 : decode code 949 = .ok (.invokevirtual 124, 3) := ld lc14 43 (en := (949, .invokevirtual 124, 3)) rfl
theorem dl_952 : decode code 952 = .ok (.pop, 1) := ld lc14 44 (en := (952, .pop, 1)) rfl
theorem dl_953 : decode code 953 = .ok (.aload_n 2, 1) := ld lc14 45 (en := (953, .aload_n 2, 1)) rfl
theorem dl_954 : decode code 954 = .ok (.aload_n 0, 1) := ld lc14 46 (en := (954, .aload_n 0, 1)) rfl
theorem dl_955 : decode code 955 = .ok (.iload_n 3, 1) := ld lc14 47 (en := (955, .iload_n 3, 1)) rfl
theorem dl_956 : decode code 956 = .ok (.iconst 1, 1) := ld lc14 48 (en := (956, .iconst 1, 1)) rfl
theorem dl_957 : decode code 957 = .ok (.iadd, 1) := ld lc14 49 (en := (957, .iadd, 1)) rfl
theorem dl_958 : decode code 958 = .ok (.iaload, 1) := ld lc14 50 (en := (958, .iaload, 1)) rfl
theorem dl_959 : decode code 959 = .ok (.aload_n 0, 1) := ld lc14 51 (en := (959, .aload_n 0, 1)) rfl
theorem dl_960 : decode code 960 = .ok (.iload_n 3, 1) := ld lc15 0 (en := (960, .iload_n 3, 1)) rfl
theorem dl_961 : decode code 961 = .ok (.iconst 2, 1) := ld lc15 1 (en := (961, .iconst 2, 1)) rfl
theorem dl_962 : decode code 962 = .ok (.iadd, 1) := ld lc15 2 (en := (962, .iadd, 1)) rfl
theorem dl_963 : decode code 963 = .ok (.iaload, 1) := ld lc15 3 (en := (963, .iaload, 1)) rfl
theorem dl_964 : decode code 964 = .ok (.invokevirtual 127, 3) := ld lc15 4 (en := (964, .invokevirtual 127, 3)) rfl
theorem dl_967 : decode code 967 = .ok (.pop, 1) := ld lc15 5 (en := (967, .pop, 1)) rfl
theorem dl_968 : decode code 968 = .ok (.goto 223, 3) := ld lc15 6 (en := (968, .goto 223, 3)) rfl
theorem dl_971 : decode code 971 = .ok (.aload_n 1, 1) := ld lc15 7 (en := (971, .aload_n 1, 1)) rfl
theorem dl_972 : decode code 972 = .ok (.aload_n 0, 1) := ld lc15 8 (en := (972, .aload_n 0, 1)) rfl
theorem dl_973 : decode code 973 = .ok (.iload_n 3, 1) := ld lc15 9 (en := (973, .iload_n 3, 1)) rfl
theorem dl_974 : decode code 974 = .ok (.iconst 1, 1) := ld lc15 10 (en := (974, .iconst 1, 1)) rfl
theorem dl_975 : decode code 975 = .ok (.iadd, 1) := ld lc15 11 (en := (975, .iadd, 1)) rfl
theorem dl_976 : decode code 976 = .ok (.iaload, 1) := ld lc15 12 (en := (976, .iaload, 1)) rfl
theorem dl_977 : decode code 977 = .ok (.aload_n 0, 1) := ld lc15 13 (en := (977, .aload_n 0, 1)) rfl
theorem dl_978 : decode code 978 = .ok (.iload_n 3, 1) := ld lc15 14 (en := (978, .iload_n 3, 1)) rfl
theorem dl_979 : decode code 979 = .ok (.iconst 2, 1) := ld lc15 15 (en := (979, .iconst 2, 1)) rfl
theorem dl_980 : decode code 980 = .ok (.iadd, 1) := ld lc15 16 (en := (980, .iadd, 1)) rfl
theorem dl_981 : decode code 981 = .ok (.iaload, 1) := ld lc15 17 (en := (981, .iaload, 1)) rfl
theorem dl_982 : decode code 982 = .ok (.invokevirtual 128, 3) := ld lc15 18 (en := (982, .invokevirtual 128, 3)) rfl
theorem dl_985 : decode code 985 = .ok (.pop, 1) := ld lc15 19 (en := (985, .pop, 1)) rfl
theorem dl_986 : decode code 986 = .ok (.aload_n 2, 1) := ld lc15 20 (en := (986, .aload_n 2, 1)) rfl
theorem dl_987 : decode code 987 = .ok (.aload_n 0, 1) := ld lc15 21 (en := (987, .aload_n 0, 1)) rfl
theorem dl_988 : decode code 988 = .ok (.iload_n 3, 1) := ld lc15 22 (en := (988, .iload_n 3, 1)) rfl
theorem dl_989 : decode code 989 = .ok (.iconst 1, 1) := ld lc15 23 (en := (989, .iconst 1, 1)) rfl
theorem dl_990 : decode code 990 = .ok (.iadd, 1) := ld lc15 24 (en := (990, .iadd, 1)) rfl
theorem dl_991 : decode code 991 = .ok (.iaload, 1) := ld lc15 25 (en := (991, .iaload, 1)) rfl
theorem dl_992 : decode code 992 = .ok (.aload_n 0, 1) := ld lc15 26 (en := (992, .aload_n 0, 1)) rfl
theorem dl_993 : decode code 993 = .ok (.iload_n 3, 1) := ld lc15 27 (en := (993, .iload_n 3, 1)) rfl
theorem dl_994 : decode code 994 = .ok (.iconst 2, 1) := ld lc15 28 (en := (994, .iconst 2, 1)) rfl
theorem dl_995 : decode code 995 = .ok (.iadd, 1) := ld lc15 29 (en := (995, .iadd, 1)) rfl
theorem dl_996 : decode code 996 = .ok (.iaload, 1) := ld lc15 30 (en := (996, .iaload, 1)) rfl
theorem dl_997 : decode code 997 = .ok (.invokevirtual 131, 3) := ld lc15 31 (en := (997, .invokevirtual 131, 3)) rfl
theorem dl_1000 : decode code 1000 = .ok (.pop, 1) := ld lc15 32 (en := (1000, .pop, 1)) rfl
theorem dl_1001 : decode code 1001 = .ok (.goto 190, 3) := ld lc15 33 (en := (1001, .goto 190, 3)) rfl
theorem dl_1004 : decode code 1004 = .ok (.aload_n 1, 1) := ld lc15 34 (en := (1004, .aload_n 1, 1)) rfl
theorem dl_1005 : decode code 1005 = .ok (.aload_n 0, 1) := ld lc15 35 (en := (1005, .aload_n 0, 1)) rfl
theorem dl_1006 : decode code 1006 = .ok (.iload_n 3, 1) := ld lc15 36 (en := (1006, .iload_n 3, 1)) rfl
theorem dl_1007 : decode code 1007 = .ok (.iconst 1, 1) := ld lc15 37 (en := (1007, .iconst 1, 1)) rfl
theorem dl_1008 : decode code 1008 = .ok (.iadd, 1) := ld lc15 38 (en := (1008, .iadd, 1)) rfl
theorem dl_1009 : decode code 1009 = .ok (.iaload, 1) := ld lc15 39 (en := (1009, .iaload, 1)) rfl
theorem dl_1010 : decode code 1010 = .ok (.aload_n 0, 1) := ld lc15 40 (en := (1010, .aload_n 0, 1)) rfl
theorem dl_1011 : decode code 1011 = .ok (.iload_n 3, 1) := ld lc15 41 (en := (1011, .iload_n 3, 1)) rfl
theorem dl_1012 : decode code 1012 = .ok (.iconst 2, 1) := ld lc15 42 (en := (1012, .iconst 2, 1)) rfl
theorem dl_1013 : decode code 1013 = .ok (.iadd, 1) := ld lc15 43 (en := (1013, .iadd, 1)) rfl
theorem dl_1014 : decode code 1014 = .ok (.iaload, 1) := ld lc15 44 (en := (1014, .iaload, 1)) rfl
theorem dl_1015 : decode code 1015 = .ok (.ifCond .eq 7, 3) := ld lc15 45 (en := (1015, .ifCond .eq 7, 3)) rfl
theorem dl_1018 : decode code 1018 = .ok (.iconst 1, 1) := ld lc15 46 (en := (1018, .iconst 1, 1)) rfl
theorem dl_1019 : decode code 1019 = .ok (.goto 4, 3) := ld lc15 47 (en := (1019, .goto 4, 3)) rfl
theorem dl_1022 : decode code 1022 = .ok (.iconst 0, 1) := ld lc15 48 (en := (1022, .iconst 0, 1)) rfl
theorem dl_1023 : decode code 1023 = .ok (.invokevirtual 132, 3) := ld lc15 49 (en := (1023, .invokevirtual 132, 3)) rfl
theorem dl_1026 : decode code 1026 = .ok (.pop, 1) := ld lc16 0 (en := (1026, .pop, 1)) rfl
theorem dl_1027 : decode code 1027 = .ok (.aload_n 2, 1) := ld lc16 1 (en := (1027, .aload_n 2, 1)) rfl
theorem dl_1028 : decode code 1028 = .ok (.aload_n 0, 1) := ld lc16 2 (en := (1028, .aload_n 0, 1)) rfl
theorem dl_1029 : decode code 1029 = .ok (.iload_n 3, 1) := ld lc16 3 (en := (1029, .iload_n 3, 1)) rfl
theorem dl_1030 : decode code 1030 = .ok (.iconst 1, 1) := ld lc16 4 (en := (1030, .iconst 1, 1)) rfl
theorem dl_1031 : decode code 1031 = .ok (.iadd, 1) := ld lc16 5 (en := (1031, .iadd, 1)) rfl
theorem dl_1032 : decode code 1032 = .ok (.iaload, 1) := ld lc16 6 (en := (1032, .iaload, 1)) rfl
theorem dl_1033 : decode code 1033 = .ok (.aload_n 0, 1) := ld lc16 7 (en := (1033, .aload_n 0, 1)) rfl
theorem dl_1034 : decode code 1034 = .ok (.iload_n 3, 1) := ld lc16 8 (en := (1034, .iload_n 3, 1)) rfl
theorem dl_1035 : decode code 1035 = .ok (.iconst 2, 1) := ld lc16 9 (en := (1035, .iconst 2, 1)) rfl
theorem dl_1036 : decode code 1036 = .ok (.iadd, 1) := ld lc16 10 (en := (1036, .iadd, 1)) rfl
theorem dl_1037 : decode code 1037 = .ok (.iaload, 1) := ld lc16 11 (en := (1037, .iaload, 1)) rfl
theorem dl_1038 : decode code 1038 = .ok (.ifCond .eq 7, 3) := ld lc16 12 (en := (1038, .ifCond .eq 7, 3)) rfl
theorem dl_1041 : decode code 1041 = .ok (.iconst 1, 1) := ld lc16 13 (en := (1041, .iconst 1, 1)) rfl
theorem dl_1042 : decode code 1042 = .ok (.goto 4, 3) := ld lc16 14 (en := (1042, .goto 4, 3)) rfl
theorem dl_1045 : decode code 1045 = .ok (.iconst 0, 1) := ld lc16 15 (en := (1045, .iconst 0, 1)) rfl
theorem dl_1046 : decode code 1046 = .ok (.invokevirtual 136, 3) := ld lc16 16 (en := (1046, .invokevirtual 136, 3)) rfl
theorem dl_1049 : decode code 1049 = .ok (.pop, 1) := ld lc16 17 (en := (1049, .pop, 1)) rfl
theorem dl_1050 : decode code 1050 = .ok (.goto 141, 3) := ld lc16 18 (en := (1050, .goto 141, 3)) rfl
theorem dl_1053 : decode code 1053 = .ok (.aload_n 1, 1) := ld lc16 19 (en := (1053, .aload_n 1, 1)) rfl
theorem dl_1054 : decode code 1054 = .ok (.invokevirtual 137, 3) := ld lc16 20 (en := (1054, .invokevirtual 137, 3)) rfl
theorem dl_1057 : decode code 1057 = .ok (.pop, 1) := ld lc16 21 (en := (1057, .pop, 1)) rfl
theorem dl_1058 : decode code 1058 = .ok (.aload_n 2, 1) := ld lc16 22 (en := (1058, .aload_n 2, 1)) rfl
theorem dl_1059 : decode code 1059 = .ok (.invokevirtual 140, 3) := ld lc16 23 (en := (1059, .invokevirtual 140, 3)) rfl
theorem dl_1062 : decode code 1062 = .ok (.pop, 1) := ld lc16 24 (en := (1062, .pop, 1)) rfl
theorem dl_1063 : decode code 1063 = .ok (.goto 128, 3) := ld lc16 25 (en := (1063, .goto 128, 3)) rfl
theorem dl_1066 : decode code 1066 = .ok (.aload_n 1, 1) := ld lc16 26 (en := (1066, .aload_n 1, 1)) rfl
theorem dl_1067 : decode code 1067 = .ok (.aload_n 0, 1) := ld lc16 27 (en := (1067, .aload_n 0, 1)) rfl
theorem dl_1068 : decode code 1068 = .ok (.iload_n 3, 1) := ld lc16 28 (en := (1068, .iload_n 3, 1)) rfl
theorem dl_1069 : decode code 1069 = .ok (.iconst 1, 1) := ld lc16 29 (en := (1069, .iconst 1, 1)) rfl
theorem dl_1070 : decode code 1070 = .ok (.iadd, 1) := ld lc16 30 (en := (1070, .iadd, 1)) rfl
theorem dl_1071 : decode code 1071 = .ok (.iaload, 1) := ld lc16 31 (en := (1071, .iaload, 1)) rfl
theorem dl_1072 : decode code 1072 = .ok (.aload_n 0, 1) := ld lc16 32 (en := (1072, .aload_n 0, 1)) rfl
theorem dl_1073 : decode code 1073 = .ok (.iload_n 3, 1) := ld lc16 33 (en := (1073, .iload_n 3, 1)) rfl
theorem dl_1074 : decode code 1074 = .ok (.iconst 2, 1) := ld lc16 34 (en := (1074, .iconst 2, 1)) rfl
theorem dl_1075 : decode code 1075 = .ok (.iadd, 1) := ld lc16 35 (en := (1075, .iadd, 1)) rfl
theorem dl_1076 : decode code 1076 = .ok (.iaload, 1) := ld lc16 36 (en := (1076, .iaload, 1)) rfl
theorem dl_1077 : decode code 1077 = .ok (.invokevirtual 141, 3) := ld lc16 37 (en := (1077, .invokevirtual 141, 3)) rfl
theorem dl_1080 : decode code 1080 = .ok (.pop, 1) := ld lc16 38 (en := (1080, .pop, 1)) rfl
theorem dl_1081 : decode code 1081 = .ok (.aload_n 2, 1) := ld lc16 39 (en := (1081, .aload_n 2, 1)) rfl
theorem dl_1082 : decode code 1082 = .ok (.aload_n 0, 1) := ld lc16 40 (en := (1082, .aload_n 0, 1)) rfl
theorem dl_1083 : decode code 1083 = .ok (.iload_n 3, 1) := ld lc16 41 (en := (1083, .iload_n 3, 1)) rfl
theorem dl_1084 : decode code 1084 = .ok (.iconst 1, 1) := ld lc16 42 (en := (1084, .iconst 1, 1)) rfl
theorem dl_1085 : decode code 1085 = .ok (.iadd, 1) := ld lc16 43 (en := (1085, .iadd, 1)) rfl
theorem dl_1086 : decode code 1086 = .ok (.iaload, 1) := ld lc16 44 (en := (1086, .iaload, 1)) rfl
theorem dl_1087 : decode code 1087 = .ok (.aload_n 0, 1) := ld lc16 45 (en := (1087, .aload_n 0, 1)) rfl
theorem dl_1088 : decode code 1088 = .ok (.iload_n 3, 1) := ld lc17 0 (en := (1088, .iload_n 3, 1)) rfl
theorem dl_1089 : decode code 1089 = .ok (.iconst 2, 1) := ld lc17 1 (en := (1089, .iconst 2, 1)) rfl
theorem dl_1090 : decode code 1090 = .ok (.iadd, 1) := ld lc17 2 (en := (1090, .iadd, 1)) rfl
theorem dl_1091 : decode code 1091 = .ok (.iaload, 1) := ld lc17 3 (en := (1091, .iaload, 1)) rfl
theorem dl_1092 : decode code 1092 = .ok (.invokevirtual 144, 3) := ld lc17 4 (en := (1092, .invokevirtual 144, 3)) rfl
theorem dl_1095 : decode code 1095 = .ok (.pop, 1) := ld lc17 5 (en := (1095, .pop, 1)) rfl
theorem dl_1096 : decode code 1096 = .ok (.goto 95, 3) := ld lc17 6 (en := (1096, .goto 95, 3)) rfl
theorem dl_1099 : decode code 1099 = .ok (.aload_n 1, 1) := ld lc17 7 (en := (1099, .aload_n 1, 1)) rfl
theorem dl_1100 : decode code 1100 = .ok (.aload_n 0, 1) := ld lc17 8 (en := (1100, .aload_n 0, 1)) rfl
theorem dl_1101 : decode code 1101 = .ok (.iload_n 3, 1) := ld lc17 9 (en := (1101, .iload_n 3, 1)) rfl
theorem dl_1102 : decode code 1102 = .ok (.iconst 1, 1) := ld lc17 10 (en := (1102, .iconst 1, 1)) rfl
theorem dl_1103 : decode code 1103 = .ok (.iadd, 1) := ld lc17 11 (en := (1103, .iadd, 1)) rfl
theorem dl_1104 : decode code 1104 = .ok (.iaload, 1) := ld lc17 12 (en := (1104, .iaload, 1)) rfl
theorem dl_1105 : decode code 1105 = .ok (.invokevirtual 145, 3) := ld lc17 13 (en := (1105, .invokevirtual 145, 3)) rfl
theorem dl_1108 : decode code 1108 = .ok (.pop, 1) := ld lc17 14 (en := (1108, .pop, 1)) rfl
theorem dl_1109 : decode code 1109 = .ok (.aload_n 2, 1) := ld lc17 15 (en := (1109, .aload_n 2, 1)) rfl
theorem dl_1110 : decode code 1110 = .ok (.aload_n 0, 1) := ld lc17 16 (en := (1110, .aload_n 0, 1)) rfl
theorem dl_1111 : decode code 1111 = .ok (.iload_n 3, 1) := ld lc17 17 (en := (1111, .iload_n 3, 1)) rfl
theorem dl_1112 : decode code 1112 = .ok (.iconst 1, 1) := ld lc17 18 (en := (1112, .iconst 1, 1)) rfl
theorem dl_1113 : decode code 1113 = .ok (.iadd, 1) := ld lc17 19 (en := (1113, .iadd, 1)) rfl
theorem dl_1114 : decode code 1114 = .ok (.iaload, 1) := ld lc17 20 (en := (1114, .iaload, 1)) rfl
theorem dl_1115 : decode code 1115 = .ok (.invokevirtual 148, 3) := ld lc17 21 (en := (1115, .invokevirtual 148, 3)) rfl
theorem dl_1118 : decode code 1118 = .ok (.pop, 1) := ld lc17 22 (en := (1118, .pop, 1)) rfl
theorem dl_1119 : decode code 1119 = .ok (.goto 72, 3) := ld lc17 23 (en := (1119, .goto 72, 3)) rfl
theorem dl_1122 : decode code 1122 = .ok (.aload_n 1, 1) := ld lc17 24 (en := (1122, .aload_n 1, 1)) rfl
theorem dl_1123 : decode code 1123 = .ok (.aload_n 0, 1) := ld lc17 25 (en := (1123, .aload_n 0, 1)) rfl
theorem dl_1124 : decode code 1124 = .ok (.iload_n 3, 1) := ld lc17 26 (en := (1124, .iload_n 3, 1)) rfl
theorem dl_1125 : decode code 1125 = .ok (.iconst 1, 1) := ld lc17 27 (en := (1125, .iconst 1, 1)) rfl
theorem dl_1126 : decode code 1126 = .ok (.iadd, 1) := ld lc17 28 (en := (1126, .iadd, 1)) rfl
theorem dl_1127 : decode code 1127 = .ok (.iaload, 1) := ld lc17 29 (en := (1127, .iaload, 1)) rfl
theorem dl_1128 : decode code 1128 = .ok (.invokevirtual 149, 3) := ld lc17 30 (en := (1128, .invokevirtual 149, 3)) rfl
theorem dl_1131 : decode code 1131 = .ok (.pop, 1) := ld lc17 31 (en := (1131, .pop, 1)) rfl
theorem dl_1132 : decode code 1132 = .ok (.aload_n 2, 1) := ld lc17 32 (en := (1132, .aload_n 2, 1)) rfl
theorem dl_1133 : decode code 1133 = .ok (.aload_n 0, 1) := ld lc17 33 (en := (1133, .aload_n 0, 1)) rfl
theorem dl_1134 : decode code 1134 = .ok (.iload_n 3, 1) := ld lc17 34 (en := (1134, .iload_n 3, 1)) rfl
theorem dl_1135 : decode code 1135 = .ok (.iconst 1, 1) := ld lc17 35 (en := (1135, .iconst 1, 1)) rfl
theorem dl_1136 : decode code 1136 = .ok (.iadd, 1) := ld lc17 36 (en := (1136, .iadd, 1)) rfl
theorem dl_1137 : decode code 1137 = .ok (.iaload, 1) := ld lc17 37 (en := (1137, .iaload, 1)) rfl
theorem dl_1138 : decode code 1138 = .ok (.invokevirtual 153, 3) := ld lc17 38 (en := (1138, .invokevirtual 153, 3)) rfl
theorem dl_1141 : decode code 1141 = .ok (.pop, 1) := ld lc17 39 (en := (1141, .pop, 1)) rfl
theorem dl_1142 : decode code 1142 = .ok (.goto 49, 3) := ld lc17 40 (en := (1142, .goto 49, 3)) rfl
theorem dl_1145 : decode code 1145 = .ok (.aload_n 1, 1) := ld lc17 41 (en := (1145, .aload_n 1, 1)) rfl
theorem dl_1146 : decode code 1146 = .ok (.aload_n 0, 1) := ld lc17 42 (en := (1146, .aload_n 0, 1)) rfl
theorem dl_1147 : decode code 1147 = .ok (.iload_n 3, 1) := ld lc17 43 (en := (1147, .iload_n 3, 1)) rfl
theorem dl_1148 : decode code 1148 = .ok (.iconst 1, 1) := ld lc17 44 (en := (1148, .iconst 1, 1)) rfl
theorem dl_1149 : decode code 1149 = .ok (.iadd, 1) := ld lc17 45 (en := (1149, .iadd, 1)) rfl
theorem dl_1150 : decode code 1150 = .ok (.iaload, 1) := ld lc17 46 (en := (1150, .iaload, 1)) rfl
theorem dl_1151 : decode code 1151 = .ok (.invokevirtual 154, 3) := ld lc17 47 (en := (1151, .invokevirtual 154, 3)) rfl
theorem dl_1154 : decode code 1154 = .ok (.pop, 1) := ld lc18 0 (en := (1154, .pop, 1)) rfl
theorem dl_1155 : decode code 1155 = .ok (.aload_n 2, 1) := ld lc18 1 (en := (1155, .aload_n 2, 1)) rfl
theorem dl_1156 : decode code 1156 = .ok (.aload_n 0, 1) := ld lc18 2 (en := (1156, .aload_n 0, 1)) rfl
theorem dl_1157 : decode code 1157 = .ok (.iload_n 3, 1) := ld lc18 3 (en := (1157, .iload_n 3, 1)) rfl
theorem dl_1158 : decode code 1158 = .ok (.iconst 1, 1) := ld lc18 4 (en := (1158, .iconst 1, 1)) rfl
theorem dl_1159 : decode code 1159 = .ok (.iadd, 1) := ld lc18 5 (en := (1159, .iadd, 1)) rfl
theorem dl_1160 : decode code 1160 = .ok (.iaload, 1) := ld lc18 6 (en := (1160, .iaload, 1)) rfl
theorem dl_1161 : decode code 1161 = .ok (.invokevirtual 157, 3) := ld lc18 7 (en := (1161, .invokevirtual 157, 3)) rfl
theorem dl_1164 : decode code 1164 = .ok (.pop, 1) := ld lc18 8 (en := (1164, .pop, 1)) rfl
theorem dl_1165 : decode code 1165 = .ok (.goto 26, 3) := ld lc18 9 (en := (1165, .goto 26, 3)) rfl
theorem dl_1168 : decode code 1168 = .ok (.aload_n 1, 1) := ld lc18 10 (en := (1168, .aload_n 1, 1)) rfl
theorem dl_1169 : decode code 1169 = .ok (.aload_n 0, 1) := ld lc18 11 (en := (1169, .aload_n 0, 1)) rfl
theorem dl_1170 : decode code 1170 = .ok (.iload_n 3, 1) := ld lc18 12 (en := (1170, .iload_n 3, 1)) rfl
theorem dl_1171 : decode code 1171 = .ok (.iconst 1, 1) := ld lc18 13 (en := (1171, .iconst 1, 1)) rfl
theorem dl_1172 : decode code 1172 = .ok (.iadd, 1) := ld lc18 14 (en := (1172, .iadd, 1)) rfl
theorem dl_1173 : decode code 1173 = .ok (.iaload, 1) := ld lc18 15 (en := (1173, .iaload, 1)) rfl
theorem dl_1174 : decode code 1174 = .ok (.invokevirtual 158, 3) := ld lc18 16 (en := (1174, .invokevirtual 158, 3)) rfl
theorem dl_1177 : decode code 1177 = .ok (.pop, 1) := ld lc18 17 (en := (1177, .pop, 1)) rfl
theorem dl_1178 : decode code 1178 = .ok (.aload_n 2, 1) := ld lc18 18 (en := (1178, .aload_n 2, 1)) rfl
theorem dl_1179 : decode code 1179 = .ok (.aload_n 0, 1) := ld lc18 19 (en := (1179, .aload_n 0, 1)) rfl
theorem dl_1180 : decode code 1180 = .ok (.iload_n 3, 1) := ld lc18 20 (en := (1180, .iload_n 3, 1)) rfl
theorem dl_1181 : decode code 1181 = .ok (.iconst 1, 1) := ld lc18 21 (en := (1181, .iconst 1, 1)) rfl
theorem dl_1182 : decode code 1182 = .ok (.iadd, 1) := ld lc18 22 (en := (1182, .iadd, 1)) rfl
theorem dl_1183 : decode code 1183 = .ok (.iaload, 1) := ld lc18 23 (en := (1183, .iaload, 1)) rfl
theorem dl_1184 : decode code 1184 = .ok (.invokevirtual 161, 3) := ld lc18 24 (en := (1184, .invokevirtual 161, 3)) rfl
theorem dl_1187 : decode code 1187 = .ok (.pop, 1) := ld lc18 25 (en := (1187, .pop, 1)) rfl
theorem dl_1188 : decode code 1188 = .ok (.goto 3, 3) := ld lc18 26 (en := (1188, .goto 3, 3)) rfl
theorem dl_1191 : decode code 1191 = .ok (.iinc 3 6, 3) := ld lc18 27 (en := (1191, .iinc 3 6, 3)) rfl
theorem dl_1194 : decode code 1194 = .ok (.goto (-1176), 3) := ld lc18 28 (en := (1194, .goto (-1176), 3)) rfl
theorem dl_1197 : decode code 1197 = .ok (.iconst 1, 1) := ld lc18 29 (en := (1197, .iconst 1, 1)) rfl
theorem dl_1198 : decode code 1198 = .ok (.ireturn, 1) := ld lc18 30 (en := (1198, .ireturn, 1)) rfl
