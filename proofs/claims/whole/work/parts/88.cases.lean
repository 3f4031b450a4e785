section
def tbL_0 : List (Nat × Instr × Nat) := [(200, .aload_n 1, 1), (201, .aload_n 0, 1), (202, .iload_n 3, 1), (203, .iconst 1, 1), (204, .iadd, 1), (205, .iaload, 1), (206, .aload_n 0, 1), (207, .iload_n 3, 1), (208, .iconst 2, 1), (209, .iadd, 1), (210, .iaload, 1), (211, .aload_n 0, 1), (212, .iload_n 3, 1), (213, .iconst 3, 1), (214, .iadd, 1), (215, .iaload, 1), (216, .aload_n 0, 1), (217, .iload_n 3, 1), (218, .iconst 4, 1), (219, .iadd, 1), (220, .iaload, 1), (221, .aload_n 0, 1), (222, .iload_n 3, 1), (223, .iconst 5, 1), (224, .iadd, 1), (225, .iaload, 1), (226, .invokevirtual 13, 3), (229, .aload_n 2, 1), (230, .aload_n 0, 1), (231, .iload_n 3, 1), (232, .iconst 1, 1), (233, .iadd, 1), (234, .iaload, 1), (235, .aload_n 0, 1), (236, .iload_n 3, 1), (237, .iconst 2, 1), (238, .iadd, 1), (239, .iaload, 1), (240, .aload_n 0, 1), (241, .iload_n 3, 1), (242, .iconst 3, 1), (243, .iadd, 1), (244, .iaload, 1), (245, .aload_n 0, 1), (246, .iload_n 3, 1), (247, .iconst 4, 1), (248, .iadd, 1), (249, .iaload, 1), (250, .aload_n 0, 1), (251, .iload_n 3, 1), (252, .iconst 5, 1), (253, .iadd, 1), (254, .iaload, 1), (255, .invokevirtual 17, 3), (258, .if_icmp .eq 983, 3), (261, .iconst 0, 1), (262, .ireturn, 1)]
theorem tdL_0 : x_dec code tbL_0 = true := by decide +kernel
def tbL_1 : List (Nat × Instr × Nat) := [(263, .aload_n 1, 1), (264, .aload_n 0, 1), (265, .iload_n 3, 1), (266, .iconst 1, 1), (267, .iadd, 1), (268, .iaload, 1), (269, .invokevirtual 18, 3), (272, .aload_n 2, 1), (273, .aload_n 0, 1), (274, .iload_n 3, 1), (275, .iconst 1, 1), (276, .iadd, 1), (277, .iaload, 1), (278, .invokevirtual 22, 3), (281, .if_icmp .eq 960, 3), (284, .iconst 0, 1), (285, .ireturn, 1)]
theorem tdL_1 : x_dec code tbL_1 = true := by decide +kernel
def tbL_2 : List (Nat × Instr × Nat) := [(286, .aload_n 1, 1), (287, .invokevirtual 23, 3), (290, .aload_n 2, 1), (291, .invokevirtual 27, 3), (294, .if_icmp .eq 947, 3), (297, .iconst 0, 1), (298, .ireturn, 1)]
theorem tdL_2 : x_dec code tbL_2 = true := by decide +kernel
def tbL_3 : List (Nat × Instr × Nat) := [(299, .aload_n 1, 1), (300, .aload_n 0, 1), (301, .iload_n 3, 1), (302, .iconst 1, 1), (303, .iadd, 1), (304, .iaload, 1), (305, .invokevirtual 28, 3), (308, .aload_n 2, 1), (309, .aload_n 0, 1), (310, .iload_n 3, 1), (311, .iconst 1, 1), (312, .iadd, 1), (313, .iaload, 1), (314, .invokevirtual 31, 3), (317, .if_icmp .eq 924, 3), (320, .iconst 0, 1), (321, .ireturn, 1)]
theorem tdL_3 : x_dec code tbL_3 = true := by decide +kernel
def tbL_4 : List (Nat × Instr × Nat) := [(322, .aload_n 1, 1), (323, .aload_n 0, 1), (324, .iload_n 3, 1), (325, .iconst 1, 1), (326, .iadd, 1), (327, .iaload, 1), (328, .aload_n 0, 1), (329, .iload_n 3, 1), (330, .iconst 2, 1), (331, .iadd, 1), (332, .iaload, 1), (333, .invokevirtual 32, 3), (336, .aload_n 2, 1), (337, .aload_n 0, 1), (338, .iload_n 3, 1), (339, .iconst 1, 1), (340, .iadd, 1), (341, .iaload, 1), (342, .aload_n 0, 1), (343, .iload_n 3, 1), (344, .iconst 2, 1), (345, .iadd, 1), (346, .iaload, 1), (347, .invokevirtual 36, 3), (350, .if_icmp .eq 891, 3), (353, .iconst 0, 1), (354, .ireturn, 1)]
theorem tdL_4 : x_dec code tbL_4 = true := by decide +kernel
def tbL_5 : List (Nat × Instr × Nat) := [(355, .aload_n 1, 1), (356, .aload_n 0, 1), (357, .iload_n 3, 1), (358, .iconst 1, 1), (359, .iadd, 1), (360, .iaload, 1), (361, .aload_n 0, 1), (362, .iload_n 3, 1), (363, .iconst 2, 1), (364, .iadd, 1), (365, .iaload, 1), (366, .invokevirtual 37, 3), (369, .aload_n 2, 1), (370, .aload_n 0, 1), (371, .iload_n 3, 1), (372, .iconst 1, 1), (373, .iadd, 1), (374, .iaload, 1), (375, .aload_n 0, 1), (376, .iload_n 3, 1), (377, .iconst 2, 1), (378, .iadd, 1), (379, .iaload, 1), (380, .invokevirtual 40, 3), (383, .if_icmp .eq 858, 3), (386, .iconst 0, 1), (387, .ireturn, 1)]
theorem tdL_5 : x_dec code tbL_5 = true := by decide +kernel
def tbL_6 : List (Nat × Instr × Nat) := [(388, .aload_n 1, 1), (389, .invokevirtual 41, 3), (392, .aload_n 2, 1), (393, .invokevirtual 44, 3), (396, .if_icmp .eq 845, 3), (399, .iconst 0, 1), (400, .ireturn, 1)]
theorem tdL_6 : x_dec code tbL_6 = true := by decide +kernel
def tbL_7 : List (Nat × Instr × Nat) := [(401, .aload_n 1, 1), (402, .aload_n 0, 1), (403, .iload_n 3, 1), (404, .iconst 1, 1), (405, .iadd, 1), (406, .iaload, 1), (407, .aload_n 0, 1), (408, .iload_n 3, 1), (409, .iconst 2, 1), (410, .iadd, 1), (411, .iaload, 1), (412, .invokevirtual 45, 3), (415, .aload_n 2, 1), (416, .aload_n 0, 1), (417, .iload_n 3, 1), (418, .iconst 1, 1), (419, .iadd, 1), (420, .iaload, 1), (421, .aload_n 0, 1), (422, .iload_n 3, 1), (423, .iconst 2, 1), (424, .iadd, 1), (425, .iaload, 1), (426, .invokevirtual 48, 3), (429, .if_icmp .eq 812, 3), (432, .iconst 0, 1), (433, .ireturn, 1)]
theorem tdL_7 : x_dec code tbL_7 = true := by decide +kernel
def tbL_8 : List (Nat × Instr × Nat) := [(434, .aload_n 1, 1), (435, .aload_n 0, 1), (436, .iload_n 3, 1), (437, .iconst 1, 1), (438, .iadd, 1), (439, .iaload, 1), (440, .invokevirtual 49, 3), (443, .aload_n 2, 1), (444, .aload_n 0, 1), (445, .iload_n 3, 1), (446, .iconst 1, 1), (447, .iadd, 1), (448, .iaload, 1), (449, .invokevirtual 52, 3), (452, .if_icmp .eq 789, 3), (455, .iconst 0, 1), (456, .ireturn, 1)]
theorem tdL_8 : x_dec code tbL_8 = true := by decide +kernel
def tbL_9 : List (Nat × Instr × Nat) := [(457, .aload_n 1, 1), (458, .aload_n 0, 1), (459, .iload_n 3, 1), (460, .iconst 1, 1), (461, .iadd, 1), (462, .iaload, 1), (463, .aload_n 0, 1), (464, .iload_n 3, 1), (465, .iconst 2, 1), (466, .iadd, 1), (467, .iaload, 1), (468, .invokevirtual 53, 3), (471, .aload_n 2, 1), (472, .aload_n 0, 1), (473, .iload_n 3, 1), (474, .iconst 1, 1), (475, .iadd, 1), (476, .iaload, 1), (477, .aload_n 0, 1), (478, .iload_n 3, 1), (479, .iconst 2, 1), (480, .iadd, 1), (481, .iaload, 1), (482, .invokevirtual 56, 3), (485, .if_icmp .eq 756, 3), (488, .iconst 0, 1), (489, .ireturn, 1)]
theorem tdL_9 : x_dec code tbL_9 = true := by decide +kernel
def tbL_10 : List (Nat × Instr × Nat) := [(490, .aload_n 1, 1), (491, .aload_n 0, 1), (492, .iload_n 3, 1), (493, .iconst 1, 1), (494, .iadd, 1), (495, .iaload, 1), (496, .invokevirtual 57, 3), (499, .aload_n 2, 1), (500, .aload_n 0, 1), (501, .iload_n 3, 1), (502, .iconst 1, 1), (503, .iadd, 1), (504, .iaload, 1), (505, .invokevirtual 61, 3), (508, .if_icmp .eq 733, 3), (511, .iconst 0, 1), (512, .ireturn, 1)]
theorem tdL_10 : x_dec code tbL_10 = true := by decide +kernel
def tbL_11 : List (Nat × Instr × Nat) := [(513, .aload_n 1, 1), (514, .aload_n 0, 1), (515, .iload_n 3, 1), (516, .iconst 1, 1), (517, .iadd, 1), (518, .iaload, 1), (519, .invokevirtual 62, 3), (522, .aload_n 2, 1), (523, .aload_n 0, 1), (524, .iload_n 3, 1), (525, .iconst 1, 1), (526, .iadd, 1), (527, .iaload, 1), (528, .invokevirtual 65, 3), (531, .if_icmp .eq 710, 3), (534, .iconst 0, 1), (535, .ireturn, 1)]
theorem tdL_11 : x_dec code tbL_11 = true := by decide +kernel
def tbL_12 : List (Nat × Instr × Nat) := [(536, .aload_n 1, 1), (537, .aload_n 0, 1), (538, .iload_n 3, 1), (539, .iconst 1, 1), (540, .iadd, 1), (541, .iaload, 1), (542, .invokevirtual 66, 3), (545, .aload_n 2, 1), (546, .aload_n 0, 1), (547, .iload_n 3, 1), (548, .iconst 1, 1), (549, .iadd, 1), (550, .iaload, 1), (551, .invokevirtual 69, 3), (554, .if_icmp .eq 687, 3), (557, .iconst 0, 1), (558, .ireturn, 1)]
theorem tdL_12 : x_dec code tbL_12 = true := by decide +kernel
def tbL_13 : List (Nat × Instr × Nat) := [(559, .aload_n 1, 1), (560, .invokevirtual 70, 3), (563, .aload_n 2, 1), (564, .invokevirtual 73, 3), (567, .if_icmp .eq 674, 3), (570, .iconst 0, 1), (571, .ireturn, 1)]
theorem tdL_13 : x_dec code tbL_13 = true := by decide +kernel
def tbL_14 : List (Nat × Instr × Nat) := [(572, .aload_n 1, 1), (573, .invokevirtual 74, 3), (576, .aload_n 2, 1), (577, .invokevirtual 78, 3), (580, .if_icmp .eq 661, 3), (583, .iconst 0, 1), (584, .ireturn, 1)]
theorem tdL_14 : x_dec code tbL_14 = true := by decide +kernel
def tbL_15 : List (Nat × Instr × Nat) := [(585, .aload_n 1, 1), (586, .invokevirtual 79, 3), (589, .aload_n 2, 1), (590, .invokevirtual 82, 3), (593, .if_icmp .eq 648, 3), (596, .iconst 0, 1), (597, .ireturn, 1)]
theorem tdL_15 : x_dec code tbL_15 = true := by decide +kernel
def tbL_16 : List (Nat × Instr × Nat) := [(598, .aload_n 1, 1), (599, .aload_n 0, 1), (600, .iload_n 3, 1), (601, .iconst 1, 1), (602, .iadd, 1), (603, .iaload, 1), (604, .aload_n 0, 1), (605, .iload_n 3, 1), (606, .iconst 2, 1), (607, .iadd, 1), (608, .iaload, 1), (609, .invokevirtual 83, 3), (612, .aload_n 2, 1), (613, .aload_n 0, 1), (614, .iload_n 3, 1), (615, .iconst 1, 1), (616, .iadd, 1), (617, .iaload, 1), (618, .aload_n 0, 1), (619, .iload_n 3, 1), (620, .iconst 2, 1), (621, .iadd, 1), (622, .iaload, 1), (623, .invokevirtual 86, 3), (626, .if_icmp .eq 615, 3), (629, .iconst 0, 1), (630, .ireturn, 1)]
theorem tdL_16 : x_dec code tbL_16 = true := by decide +kernel
def tbL_17 : List (Nat × Instr × Nat) := [(631, .aload_n 1, 1), (632, .aload_n 0, 1), (633, .iload_n 3, 1), (634, .iconst 1, 1), (635, .iadd, 1), (636, .iaload, 1), (637, .invokevirtual 87, 3), (640, .aload_n 2, 1), (641, .aload_n 0, 1), (642, .iload_n 3, 1), (643, .iconst 1, 1), (644, .iadd, 1), (645, .iaload, 1), (646, .invokevirtual 90, 3), (649, .if_icmp .eq 592, 3), (652, .iconst 0, 1), (653, .ireturn, 1)]
theorem tdL_17 : x_dec code tbL_17 = true := by decide +kernel
def tbL_18 : List (Nat × Instr × Nat) := [(654, .aload_n 1, 1), (655, .aload_n 0, 1), (656, .iload_n 3, 1), (657, .iconst 1, 1), (658, .iadd, 1), (659, .iaload, 1), (660, .aload_n 0, 1), (661, .iload_n 3, 1), (662, .iconst 2, 1), (663, .iadd, 1), (664, .iaload, 1), (665, .invokevirtual 91, 3), (668, .aload_n 2, 1), (669, .aload_n 0, 1), (670, .iload_n 3, 1), (671, .iconst 1, 1), (672, .iadd, 1), (673, .iaload, 1), (674, .aload_n 0, 1), (675, .iload_n 3, 1), (676, .iconst 2, 1), (677, .iadd, 1), (678, .iaload, 1), (679, .invokevirtual 94, 3), (682, .if_icmp .eq 559, 3), (685, .iconst 0, 1), (686, .ireturn, 1)]
theorem tdL_18 : x_dec code tbL_18 = true := by decide +kernel
def tbL_19 : List (Nat × Instr × Nat) := [(687, .aload_n 1, 1), (688, .aload_n 0, 1), (689, .iload_n 3, 1), (690, .iconst 1, 1), (691, .iadd, 1), (692, .iaload, 1), (693, .aload_n 0, 1), (694, .iload_n 3, 1), (695, .iconst 2, 1), (696, .iadd, 1), (697, .iaload, 1), (698, .invokevirtual 95, 3), (701, .aload_n 2, 1), (702, .aload_n 0, 1), (703, .iload_n 3, 1), (704, .iconst 1, 1), (705, .iadd, 1), (706, .iaload, 1), (707, .aload_n 0, 1), (708, .iload_n 3, 1), (709, .iconst 2, 1), (710, .iadd, 1), (711, .iaload, 1), (712, .invokevirtual 98, 3), (715, .if_icmp .eq 526, 3), (718, .iconst 0, 1), (719, .ireturn, 1)]
theorem tdL_19 : x_dec code tbL_19 = true := by decide +kernel
def tbL_20 : List (Nat × Instr × Nat) := [(720, .aload_n 1, 1), (721, .aload_n 0, 1), (722, .iload_n 3, 1), (723, .iconst 1, 1), (724, .iadd, 1), (725, .iaload, 1), (726, .aload_n 0, 1), (727, .iload_n 3, 1), (728, .iconst 2, 1), (729, .iadd, 1), (730, .iaload, 1), (731, .invokevirtual 99, 3), (734, .aload_n 2, 1), (735, .aload_n 0, 1), (736, .iload_n 3, 1), (737, .iconst 1, 1), (738, .iadd, 1), (739, .iaload, 1), (740, .aload_n 0, 1), (741, .iload_n 3, 1), (742, .iconst 2, 1), (743, .iadd, 1), (744, .iaload, 1), (745, .invokevirtual 102, 3), (748, .if_icmp .eq 493, 3), (751, .iconst 0, 1), (752, .ireturn, 1)]
theorem tdL_20 : x_dec code tbL_20 = true := by decide +kernel
def tbL_21 : List (Nat × Instr × Nat) := [(753, .aload_n 1, 1), (754, .aload_n 0, 1), (755, .iload_n 3, 1), (756, .iconst 1, 1), (757, .iadd, 1), (758, .iaload, 1), (759, .aload_n 0, 1), (760, .iload_n 3, 1), (761, .iconst 2, 1), (762, .iadd, 1), (763, .iaload, 1), (764, .invokevirtual 103, 3), (767, .aload_n 2, 1), (768, .aload_n 0, 1), (769, .iload_n 3, 1), (770, .iconst 1, 1), (771, .iadd, 1), (772, .iaload, 1), (773, .aload_n 0, 1), (774, .iload_n 3, 1), (775, .iconst 2, 1), (776, .iadd, 1), (777, .iaload, 1), (778, .invokevirtual 106, 3), (781, .if_icmp .eq 460, 3), (784, .iconst 0, 1), (785, .ireturn, 1)]
theorem tdL_21 : x_dec code tbL_21 = true := by decide +kernel
def tbL_22 : List (Nat × Instr × Nat) := [(786, .aload_n 1, 1), (787, .aload_n 0, 1), (788, .iload_n 3, 1), (789, .iconst 1, 1), (790, .iadd, 1), (791, .iaload, 1), (792, .aload_n 0, 1), (793, .iload_n 3, 1), (794, .iconst 2, 1), (795, .iadd, 1), (796, .iaload, 1), (797, .aload_n 0, 1), (798, .iload_n 3, 1), (799, .iconst 3, 1), (800, .iadd, 1), (801, .iaload, 1), (802, .invokevirtual 107, 3), (805, .aload_n 2, 1), (806, .aload_n 0, 1), (807, .iload_n 3, 1), (808, .iconst 1, 1), (809, .iadd, 1), (810, .iaload, 1), (811, .aload_n 0, 1), (812, .iload_n 3, 1), (813, .iconst 2, 1), (814, .iadd, 1), (815, .iaload, 1), (816, .aload_n 0, 1), (817, .iload_n 3, 1), (818, .iconst 3, 1), (819, .iadd, 1), (820, .iaload, 1), (821, .invokevirtual 111, 3), (824, .if_icmp .eq 417, 3), (827, .iconst 0, 1), (828, .ireturn, 1)]
theorem tdL_22 : x_dec code tbL_22 = true := by decide +kernel
def tbL_23 : List (Nat × Instr × Nat) := [(829, .aload_n 1, 1), (830, .aload_n 0, 1), (831, .iload_n 3, 1), (832, .iconst 1, 1), (833, .iadd, 1), (834, .iaload, 1), (835, .aload_n 0, 1), (836, .iload_n 3, 1), (837, .iconst 2, 1), (838, .iadd, 1), (839, .iaload, 1), (840, .aload_n 0, 1), (841, .iload_n 3, 1), (842, .iconst 3, 1), (843, .iadd, 1), (844, .iaload, 1), (845, .invokevirtual 112, 3), (848, .aload_n 2, 1), (849, .aload_n 0, 1), (850, .iload_n 3, 1), (851, .iconst 1, 1), (852, .iadd, 1), (853, .iaload, 1), (854, .aload_n 0, 1), (855, .iload_n 3, 1), (856, .iconst 2, 1), (857, .iadd, 1), (858, .iaload, 1), (859, .aload_n 0, 1), (860, .iload_n 3, 1), (861, .iconst 3, 1), (862, .iadd, 1), (863, .iaload, 1), (864, .invokevirtual 116, 3), (867, .lcmp, 1), (868, .ifCond .eq 373, 3), (871, .iconst 0, 1), (872, .ireturn, 1)]
theorem tdL_23 : x_dec code tbL_23 = true := by decide +kernel
def tbL_24 : List (Nat × Instr × Nat) := [(873, .aload_n 1, 1), (874, .aload_n 0, 1), (875, .iload_n 3, 1), (876, .iconst 1, 1), (877, .iadd, 1), (878, .iaload, 1), (879, .invokevirtual 117, 3), (882, .aload_n 2, 1), (883, .aload_n 0, 1), (884, .iload_n 3, 1), (885, .iconst 1, 1), (886, .iadd, 1), (887, .iaload, 1), (888, .invokevirtual 120, 3), (891, .if_icmp .eq 350, 3), (894, .iconst 0, 1), (895, .ireturn, 1)]
theorem tdL_24 : x_dec code tbL_24 = true := by decide +kernel
def tbL_25 : List (Nat × Instr × Nat) := [(896, .aload_n 1, 1), (897, .aload_n 0, 1), (898, .iload_n 3, 1), (899, .iconst 1, 1), (900, .iadd, 1), (901, .iaload, 1), (902, .aload_n 0, 1), (903, .iload_n 3, 1), (904, .iconst 2, 1), (905, .iadd, 1), (906, .iaload, 1), (907, .invokevirtual 121, 3), (910, .aload_n 2, 1), (911, .aload_n 0, 1), (912, .iload_n 3, 1), (913, .iconst 1, 1), (914, .iadd, 1), (915, .iaload, 1), (916, .aload_n 0, 1), (917, .iload_n 3, 1), (918, .iconst 2, 1), (919, .iadd, 1), (920, .iaload, 1), (921, .invokevirtual 124, 3), (924, .if_icmp .eq 317, 3), (927, .iconst 0, 1), (928, .ireturn, 1)]
theorem tdL_25 : x_dec code tbL_25 = true := by decide +kernel
def tbL_26 : List (Nat × Instr × Nat) := [(929, .aload_n 1, 1), (930, .invokevirtual 125, 3), (933, .aload_n 2, 1), (934, .invokevirtual 128, 3), (937, .if_icmp .eq 304, 3), (940, .iconst 0, 1), (941, .ireturn, 1)]
theorem tdL_26 : x_dec code tbL_26 = true := by decide +kernel
def tbL_27 : List (Nat × Instr × Nat) := [(942, .aload_n 1, 1), (943, .invokevirtual 129, 3), (946, .aload_n 2, 1), (947, .invokevirtual 132, 3), (950, .if_icmp .eq 291, 3), (953, .iconst 0, 1), (954, .ireturn, 1)]
theorem tdL_27 : x_dec code tbL_27 = true := by decide +kernel
def tbL_28 : List (Nat × Instr × Nat) := [(955, .aload_n 1, 1), (956, .aload_n 0, 1), (957, .iload_n 3, 1), (958, .iconst 1, 1), (959, .iadd, 1), (960, .iaload, 1), (961, .aload_n 0, 1), (962, .iload_n 3, 1), (963, .iconst 2, 1), (964, .iadd, 1), (965, .iaload, 1), (966, .invokevirtual 133, 3), (969, .aload_n 2, 1), (970, .aload_n 0, 1), (971, .iload_n 3, 1), (972, .iconst 1, 1), (973, .iadd, 1), (974, .iaload, 1), (975, .aload_n 0, 1), (976, .iload_n 3, 1), (977, .iconst 2, 1), (978, .iadd, 1), (979, .iaload, 1), (980, .invokevirtual 136, 3), (983, .if_icmp .eq 258, 3), (986, .iconst 0, 1), (987, .ireturn, 1)]
theorem tdL_28 : x_dec code tbL_28 = true := by decide +kernel
def tbL_29 : List (Nat × Instr × Nat) := [(988, .aload_n 1, 1), (989, .aload_n 0, 1), (990, .iload_n 3, 1), (991, .iconst 1, 1), (992, .iadd, 1), (993, .iaload, 1), (994, .invokevirtual 137, 3), (997, .aload_n 2, 1), (998, .aload_n 0, 1), (999, .iload_n 3, 1), (1000, .iconst 1, 1), (1001, .iadd, 1), (1002, .iaload, 1), (1003, .invokevirtual 140, 3), (1006, .if_icmp .eq 235, 3), (1009, .iconst 0, 1), (1010, .ireturn, 1)]
theorem tdL_29 : x_dec code tbL_29 = true := by decide +kernel
def tbL_30 : List (Nat × Instr × Nat) := [(1011, .aload_n 1, 1), (1012, .aload_n 0, 1), (1013, .iload_n 3, 1), (1014, .iconst 1, 1), (1015, .iadd, 1), (1016, .iaload, 1), (1017, .aload_n 0, 1), (1018, .iload_n 3, 1), (1019, .iconst 2, 1), (1020, .iadd, 1), (1021, .iaload, 1), (1022, .aload_n 0, 1), (1023, .iload_n 3, 1), (1024, .iconst 3, 1), (1025, .iadd, 1), (1026, .iaload, 1), (1027, .ifCond .eq 7, 3), (1030, .iconst 1, 1), (1031, .goto 4, 3), (1034, .iconst 0, 1), (1035, .invokevirtual 141, 3), (1038, .aload_n 2, 1), (1039, .aload_n 0, 1), (1040, .iload_n 3, 1), (1041, .iconst 1, 1), (1042, .iadd, 1), (1043, .iaload, 1), (1044, .aload_n 0, 1), (1045, .iload_n 3, 1), (1046, .iconst 2, 1), (1047, .iadd, 1), (1048, .iaload, 1), (1049, .aload_n 0, 1), (1050, .iload_n 3, 1), (1051, .iconst 3, 1), (1052, .iadd, 1), (1053, .iaload, 1), (1054, .ifCond .eq 7, 3), (1057, .iconst 1, 1), (1058, .goto 4, 3), (1061, .iconst 0, 1), (1062, .invokevirtual 145, 3), (1065, .if_icmp .eq 176, 3), (1068, .iconst 0, 1), (1069, .ireturn, 1)]
theorem tdL_30 : x_dec code tbL_30 = true := by decide +kernel
def tbL_31 : List (Nat × Instr × Nat) := [(1070, .aload_n 1, 1), (1071, .aload_n 0, 1), (1072, .iload_n 3, 1), (1073, .iconst 1, 1), (1074, .iadd, 1), (1075, .iaload, 1), (1076, .invokevirtual 146, 3), (1079, .aload_n 2, 1), (1080, .aload_n 0, 1), (1081, .iload_n 3, 1), (1082, .iconst 1, 1), (1083, .iadd, 1), (1084, .iaload, 1), (1085, .invokevirtual 149, 3), (1088, .if_icmp .eq 153, 3), (1091, .iconst 0, 1), (1092, .ireturn, 1)]
theorem tdL_31 : x_dec code tbL_31 = true := by decide +kernel
def tbL_32 : List (Nat × Instr × Nat) := [(1093, .aload_n 1, 1), (1094, .aload_n 0, 1), (1095, .iload_n 3, 1), (1096, .iconst 1, 1), (1097, .iadd, 1), (1098, .iaload, 1), (1099, .invokevirtual 150, 3), (1102, .aload_n 2, 1), (1103, .aload_n 0, 1), (1104, .iload_n 3, 1), (1105, .iconst 1, 1), (1106, .iadd, 1), (1107, .iaload, 1), (1108, .invokevirtual 153, 3), (1111, .if_icmp .eq 130, 3), (1114, .iconst 0, 1), (1115, .ireturn, 1)]
theorem tdL_32 : x_dec code tbL_32 = true := by decide +kernel
def tbL_33 : List (Nat × Instr × Nat) := [(1116, .aload_n 1, 1), (1117, .aload_n 0, 1), (1118, .iload_n 3, 1), (1119, .iconst 1, 1), (1120, .iadd, 1), (1121, .iaload, 1), (1122, .invokevirtual 154, 3), (1125, .aload_n 2, 1), (1126, .aload_n 0, 1), (1127, .iload_n 3, 1), (1128, .iconst 1, 1), (1129, .iadd, 1), (1130, .iaload, 1), (1131, .invokevirtual 157, 3), (1134, .if_icmp .eq 107, 3), (1137, .iconst 0, 1), (1138, .ireturn, 1)]
theorem tdL_33 : x_dec code tbL_33 = true := by decide +kernel
def tbL_34 : List (Nat × Instr × Nat) := [(1139, .aload_n 1, 1), (1140, .aload_n 0, 1), (1141, .iload_n 3, 1), (1142, .iconst 1, 1), (1143, .iadd, 1), (1144, .iaload, 1), (1145, .aload_n 0, 1), (1146, .iload_n 3, 1), (1147, .iconst 2, 1), (1148, .iadd, 1), (1149, .iaload, 1), (1150, .invokevirtual 158, 3), (1153, .aload_n 2, 1), (1154, .aload_n 0, 1), (1155, .iload_n 3, 1), (1156, .iconst 1, 1), (1157, .iadd, 1), (1158, .iaload, 1), (1159, .aload_n 0, 1), (1160, .iload_n 3, 1), (1161, .iconst 2, 1), (1162, .iadd, 1), (1163, .iaload, 1), (1164, .invokevirtual 161, 3), (1167, .if_icmp .eq 74, 3), (1170, .iconst 0, 1), (1171, .ireturn, 1)]
theorem tdL_34 : x_dec code tbL_34 = true := by decide +kernel
def tbL_35 : List (Nat × Instr × Nat) := [(1172, .aload_n 1, 1), (1173, .aload_n 0, 1), (1174, .iload_n 3, 1), (1175, .iconst 1, 1), (1176, .iadd, 1), (1177, .iaload, 1), (1178, .invokevirtual 162, 3), (1181, .aload_n 2, 1), (1182, .aload_n 0, 1), (1183, .iload_n 3, 1), (1184, .iconst 1, 1), (1185, .iadd, 1), (1186, .iaload, 1), (1187, .invokevirtual 165, 3), (1190, .if_icmp .eq 51, 3), (1193, .iconst 0, 1), (1194, .ireturn, 1)]
theorem tdL_35 : x_dec code tbL_35 = true := by decide +kernel
def tbL_36 : List (Nat × Instr × Nat) := [(1195, .aload_n 1, 1), (1196, .aload_n 0, 1), (1197, .iload_n 3, 1), (1198, .iconst 1, 1), (1199, .iadd, 1), (1200, .iaload, 1), (1201, .invokevirtual 166, 3), (1204, .aload_n 2, 1), (1205, .aload_n 0, 1), (1206, .iload_n 3, 1), (1207, .iconst 1, 1), (1208, .iadd, 1), (1209, .iaload, 1), (1210, .invokevirtual 169, 3), (1213, .if_icmp .eq 28, 3), (1216, .iconst 0, 1), (1217, .ireturn, 1)]
theorem tdL_36 : x_dec code tbL_36 = true := by decide +kernel
def tbL_37 : List (Nat × Instr × Nat) := [(1218, .aload_n 1, 1), (1219, .aload_n 0, 1), (1220, .iload_n 3, 1), (1221, .iconst 1, 1), (1222, .iadd, 1), (1223, .iaload, 1), (1224, .invokevirtual 170, 3), (1227, .aload_n 2, 1), (1228, .aload_n 0, 1), (1229, .iload_n 3, 1), (1230, .iconst 1, 1), (1231, .iadd, 1), (1232, .iaload, 1), (1233, .invokevirtual 173, 3), (1236, .if_icmp .eq 5, 3), (1239, .iconst 0, 1), (1240, .ireturn, 1)]
theorem tdL_37 : x_dec code tbL_37 = true := by decide +kernel
def tbL_h : List (Nat × Instr × Nat) := [(18, .iload_n 3, 1), (19, .aload_n 0, 1), (20, .arraylength, 1), (21, .bipush 6, 2), (23, .isub, 1), (24, .if_icmp .gt 1223, 3), (27, .aload_n 0, 1), (28, .iload_n 3, 1), (29, .iaload, 1), (30, .bipush 63, 2), (32, .iand, 1), (33, .tableswitch 1208 0 37 #[167, 230, 253, 266, 289, 322, 355, 368, 401, 424, 457, 480, 503, 526, 539, 552, 565, 598, 621, 654, 687, 720, 753, 796, 840, 863, 896, 909, 922, 955, 978, 1037, 1060, 1083, 1106, 1139, 1162, 1185], 167)]
theorem tdL_h : x_dec code tbL_h = true := by decide +kernel
def tbL_e : List (Nat × Instr × Nat) := [(1241, .iinc 3 6, 3), (1244, .goto (-1226), 3), (1247, .iconst 1, 1), (1248, .ireturn, 1)]
theorem tdL_e : x_dec code tbL_e = true := by decide +kernel
def tbL_s : List (Nat × Instr × Nat) := [(0, .new 7, 3), (3, .dup, 1), (4, .invokespecial 9, 3), (7, .astore_n 1, 1), (8, .new 10, 3), (11, .dup, 1), (12, .invokespecial 12, 3), (15, .astore_n 2, 1), (16, .iconst 0, 1), (17, .istore_n 3, 1)]
theorem tdL_s : x_dec code tbL_s = true := by decide +kernel
theorem wm_L_13 : Cond.methodLink R_law 13 yX11_feed ∈ x_TT := x_TT_of (tq_3 (List.mem_of_getElem? (i := 14) rfl)) rfl
theorem wm_L_17 : Cond.methodLink R_law 17 yX12_feed ∈ x_TT := x_TT_of (tq_7 (List.mem_of_getElem? (i := 106) rfl)) rfl
theorem wm_L_18 : Cond.methodLink R_law 18 yX11_end ∈ x_TT := x_TT_of (tq_3 (List.mem_of_getElem? (i := 22) rfl)) rfl
theorem wm_L_22 : Cond.methodLink R_law 22 yX12_end ∈ x_TT := x_TT_of (tq_7 (List.mem_of_getElem? (i := 114) rfl)) rfl
theorem wm_L_23 : Cond.methodLink R_law 23 yX11_regiment ∈ x_TT := x_TT_of (tq_3 (List.mem_of_getElem? (i := 26) rfl)) rfl
theorem wm_L_27 : Cond.methodLink R_law 27 yX12_regiment ∈ x_TT := x_TT_of (tq_7 (List.mem_of_getElem? (i := 118) rfl)) rfl
theorem wm_L_28 : Cond.methodLink R_law 28 yX11_fault ∈ x_TT := x_TT_of (tq_4 (List.mem_of_getElem? (i := 107) rfl)) rfl
theorem wm_L_31 : Cond.methodLink R_law 31 yX12_fault ∈ x_TT := x_TT_of (tq_8 (List.mem_of_getElem? (i := 43) rfl)) rfl
theorem wm_L_32 : Cond.methodLink R_law 32 yX11_button ∈ x_TT := x_TT_of (tq_4 (List.mem_of_getElem? (i := 111) rfl)) rfl
theorem wm_L_36 : Cond.methodLink R_law 36 yX12_button ∈ x_TT := x_TT_of (tq_8 (List.mem_of_getElem? (i := 47) rfl)) rfl
theorem wm_L_37 : Cond.methodLink R_law 37 yX11_coat ∈ x_TT := x_TT_of (tq_4 (List.mem_of_getElem? (i := 127) rfl)) rfl
theorem wm_L_40 : Cond.methodLink R_law 40 yX12_coat ∈ x_TT := x_TT_of (tq_8 (List.mem_of_getElem? (i := 58) rfl)) rfl
theorem wm_L_41 : Cond.methodLink R_law 41 yX11_free ∈ x_TT := x_TT_of (tq_4 (List.mem_of_getElem? (i := 135) rfl)) rfl
theorem wm_L_44 : Cond.methodLink R_law 44 yX12_free ∈ x_TT := x_TT_of (tq_8 (List.mem_of_getElem? (i := 66) rfl)) rfl
theorem wm_L_45 : Cond.methodLink R_law 45 yX11_sworn ∈ x_TT := x_TT_of (tq_4 (List.mem_of_getElem? (i := 143) rfl)) rfl
theorem wm_L_48 : Cond.methodLink R_law 48 yX12_sworn ∈ x_TT := x_TT_of (tq_8 (List.mem_of_getElem? (i := 71) rfl)) rfl
theorem wm_L_49 : Cond.methodLink R_law 49 yX11_many ∈ x_TT := x_TT_of (tq_4 (List.mem_of_getElem? (i := 151) rfl)) rfl
theorem wm_L_52 : Cond.methodLink R_law 52 yX12_many ∈ x_TT := x_TT_of (tq_8 (List.mem_of_getElem? (i := 83) rfl)) rfl
theorem wm_L_53 : Cond.methodLink R_law 53 yX11_does ∈ x_TT := x_TT_of (tq_4 (List.mem_of_getElem? (i := 155) rfl)) rfl
theorem wm_L_56 : Cond.methodLink R_law 56 yX12_does ∈ x_TT := x_TT_of (tq_8 (List.mem_of_getElem? (i := 87) rfl)) rfl
theorem wm_L_57 : Cond.methodLink R_law 57 yX11_undoes ∈ x_TT := x_TT_of (tq_4 (List.mem_of_getElem? (i := 171) rfl)) rfl
theorem wm_L_61 : Cond.methodLink R_law 61 yX12_undoes ∈ x_TT := x_TT_of (tq_8 (List.mem_of_getElem? (i := 95) rfl)) rfl
theorem wm_L_62 : Cond.methodLink R_law 62 yX11_cut ∈ x_TT := x_TT_of (tq_4 (List.mem_of_getElem? (i := 189) rfl)) rfl
theorem wm_L_65 : Cond.methodLink R_law 65 yX12_cut ∈ x_TT := x_TT_of (tq_8 (List.mem_of_getElem? (i := 99) rfl)) rfl
theorem wm_L_66 : Cond.methodLink R_law 66 yX11_sew ∈ x_TT := x_TT_of (tq_4 (List.mem_of_getElem? (i := 201) rfl)) rfl
theorem wm_L_69 : Cond.methodLink R_law 69 yX12_sew ∈ x_TT := x_TT_of (tq_8 (List.mem_of_getElem? (i := 103) rfl)) rfl
theorem wm_L_70 : Cond.methodLink R_law 70 yX11_day ∈ x_TT := x_TT_of (tq_4 (List.mem_of_getElem? (i := 209) rfl)) rfl
theorem wm_L_73 : Cond.methodLink R_law 73 yX12_day ∈ x_TT := x_TT_of (tq_8 (List.mem_of_getElem? (i := 107) rfl)) rfl
theorem wm_L_74 : Cond.methodLink R_law 74 yX11_undo ∈ x_TT := x_TT_of (tq_5 (List.mem_of_getElem? (i := 19) rfl)) rfl
theorem wm_L_78 : Cond.methodLink R_law 78 yX12_undo ∈ x_TT := x_TT_of (tq_8 (List.mem_of_getElem? (i := 126) rfl)) rfl
theorem wm_L_79 : Cond.methodLink R_law 79 yX11_redo ∈ x_TT := x_TT_of (tq_5 (List.mem_of_getElem? (i := 31) rfl)) rfl
theorem wm_L_82 : Cond.methodLink R_law 82 yX12_redo ∈ x_TT := x_TT_of (tq_8 (List.mem_of_getElem? (i := 134) rfl)) rfl
theorem wm_L_83 : Cond.methodLink R_law 83 yX11_keep ∈ x_TT := x_TT_of (tq_5 (List.mem_of_getElem? (i := 39) rfl)) rfl
theorem wm_L_86 : Cond.methodLink R_law 86 yX12_keep ∈ x_TT := x_TT_of (tq_8 (List.mem_of_getElem? (i := 138) rfl)) rfl
theorem wm_L_87 : Cond.methodLink R_law 87 yX11_rest ∈ x_TT := x_TT_of (tq_5 (List.mem_of_getElem? (i := 84) rfl)) rfl
theorem wm_L_90 : Cond.methodLink R_law 90 yX12_rest ∈ x_TT := x_TT_of (tq_8 (List.mem_of_getElem? (i := 181) rfl)) rfl
theorem wm_L_91 : Cond.methodLink R_law 91 yX11_ties ∈ x_TT := x_TT_of (tq_5 (List.mem_of_getElem? (i := 93) rfl)) rfl
theorem wm_L_94 : Cond.methodLink R_law 94 yX12_ties ∈ x_TT := x_TT_of (tq_8 (List.mem_of_getElem? (i := 185) rfl)) rfl
theorem wm_L_95 : Cond.methodLink R_law 95 yX11_clash ∈ x_TT := x_TT_of (tq_5 (List.mem_of_getElem? (i := 98) rfl)) rfl
theorem wm_L_98 : Cond.methodLink R_law 98 yX12_clash ∈ x_TT := x_TT_of (tq_8 (List.mem_of_getElem? (i := 189) rfl)) rfl
theorem wm_L_99 : Cond.methodLink R_law 99 yX11_leave ∈ x_TT := x_TT_of (tq_5 (List.mem_of_getElem? (i := 114) rfl)) rfl
theorem wm_L_102 : Cond.methodLink R_law 102 yX12_leave ∈ x_TT := x_TT_of (tq_8 (List.mem_of_getElem? (i := 197) rfl)) rfl
theorem wm_L_103 : Cond.methodLink R_law 103 yX11_asked ∈ x_TT := x_TT_of (tq_5 (List.mem_of_getElem? (i := 123) rfl)) rfl
theorem wm_L_106 : Cond.methodLink R_law 106 yX12_asked_ ∈ x_TT := x_TT_of (tq_8 (List.mem_of_getElem? (i := 205) rfl)) rfl
theorem wm_L_107 : Cond.methodLink R_law 107 yX11_holds ∈ x_TT := x_TT_of (tq_5 (List.mem_of_getElem? (i := 127) rfl)) rfl
theorem wm_L_111 : Cond.methodLink R_law 111 yX12_holds ∈ x_TT := x_TT_of (tq_8 (List.mem_of_getElem? (i := 209) rfl)) rfl
theorem wm_L_112 : Cond.methodLink R_law 112 yX11_odds ∈ x_TT := x_TT_of (tq_5 (List.mem_of_getElem? (i := 139) rfl)) rfl
theorem wm_L_116 : Cond.methodLink R_law 116 yX12_odds ∈ x_TT := x_TT_of (tq_8 (List.mem_of_getElem? (i := 217) rfl)) rfl
theorem wm_L_117 : Cond.methodLink R_law 117 yX11_first ∈ x_TT := x_TT_of (tq_5 (List.mem_of_getElem? (i := 156) rfl)) rfl
theorem wm_L_120 : Cond.methodLink R_law 120 yX12_first ∈ x_TT := x_TT_of (tq_8 (List.mem_of_getElem? (i := 230) rfl)) rfl
theorem wm_L_121 : Cond.methodLink R_law 121 yX11_will ∈ x_TT := x_TT_of (tq_5 (List.mem_of_getElem? (i := 164) rfl)) rfl
theorem wm_L_124 : Cond.methodLink R_law 124 yX12_will ∈ x_TT := x_TT_of (tq_8 (List.mem_of_getElem? (i := 239) rfl)) rfl
theorem wm_L_125 : Cond.methodLink R_law 125 yX11_truce ∈ x_TT := x_TT_of (tq_5 (List.mem_of_getElem? (i := 177) rfl)) rfl
theorem wm_L_128 : Cond.methodLink R_law 128 yX12_truce ∈ x_TT := x_TT_of (tq_9 (List.mem_of_getElem? (i := 3) rfl)) rfl
theorem wm_L_129 : Cond.methodLink R_law 129 yX11_calm ∈ x_TT := x_TT_of (tq_5 (List.mem_of_getElem? (i := 207) rfl)) rfl
theorem wm_L_132 : Cond.methodLink R_law 132 yX12_calm ∈ x_TT := x_TT_of (tq_9 (List.mem_of_getElem? (i := 27) rfl)) rfl
theorem wm_L_133 : Cond.methodLink R_law 133 yX11_likes ∈ x_TT := x_TT_of (tq_5 (List.mem_of_getElem? (i := 211) rfl)) rfl
theorem wm_L_136 : Cond.methodLink R_law 136 yX12_likes ∈ x_TT := x_TT_of (tq_9 (List.mem_of_getElem? (i := 35) rfl)) rfl
theorem wm_L_137 : Cond.methodLink R_law 137 yX11_lies ∈ x_TT := x_TT_of (tq_5 (List.mem_of_getElem? (i := 216) rfl)) rfl
theorem wm_L_140 : Cond.methodLink R_law 140 yX12_lies ∈ x_TT := x_TT_of (tq_9 (List.mem_of_getElem? (i := 39) rfl)) rfl
theorem wm_L_141 : Cond.methodLink R_law 141 yX11_tug ∈ x_TT := x_TT_of (tq_5 (List.mem_of_getElem? (i := 220) rfl)) rfl
theorem wm_L_145 : Cond.methodLink R_law 145 yX12_tug ∈ x_TT := x_TT_of (tq_9 (List.mem_of_getElem? (i := 43) rfl)) rfl
theorem wm_L_146 : Cond.methodLink R_law 146 yX11_untell ∈ x_TT := x_TT_of (tq_5 (List.mem_of_getElem? (i := 228) rfl)) rfl
theorem wm_L_149 : Cond.methodLink R_law 149 yX12_untell ∈ x_TT := x_TT_of (tq_9 (List.mem_of_getElem? (i := 47) rfl)) rfl
theorem wm_L_150 : Cond.methodLink R_law 150 yX11_later ∈ x_TT := x_TT_of (tq_5 (List.mem_of_getElem? (i := 236) rfl)) rfl
theorem wm_L_153 : Cond.methodLink R_law 153 yX12_later ∈ x_TT := x_TT_of (tq_9 (List.mem_of_getElem? (i := 51) rfl)) rfl
theorem wm_L_154 : Cond.methodLink R_law 154 yX11_swore ∈ x_TT := x_TT_of (tq_6 (List.mem_of_getElem? (i := 1) rfl)) rfl
theorem wm_L_157 : Cond.methodLink R_law 157 yX12_swore ∈ x_TT := x_TT_of (tq_9 (List.mem_of_getElem? (i := 56) rfl)) rfl
theorem wm_L_158 : Cond.methodLink R_law 158 yX11_ask ∈ x_TT := x_TT_of (tq_6 (List.mem_of_getElem? (i := 17) rfl)) rfl
theorem wm_L_161 : Cond.methodLink R_law 161 yX12_ask ∈ x_TT := x_TT_of (tq_9 (List.mem_of_getElem? (i := 68) rfl)) rfl
theorem wm_L_162 : Cond.methodLink R_law 162 yX11_image ∈ x_TT := x_TT_of (tq_6 (List.mem_of_getElem? (i := 26) rfl)) rfl
theorem wm_L_165 : Cond.methodLink R_law 165 yX12_image ∈ x_TT := x_TT_of (tq_9 (List.mem_of_getElem? (i := 77) rfl)) rfl
theorem wm_L_166 : Cond.methodLink R_law 166 yX11_back ∈ x_TT := x_TT_of (tq_6 (List.mem_of_getElem? (i := 34) rfl)) rfl
theorem wm_L_169 : Cond.methodLink R_law 169 yX12_back ∈ x_TT := x_TT_of (tq_9 (List.mem_of_getElem? (i := 84) rfl)) rfl
theorem wm_L_170 : Cond.methodLink R_law 170 yX11_about ∈ x_TT := x_TT_of (tq_6 (List.mem_of_getElem? (i := 43) rfl)) rfl
theorem wm_L_173 : Cond.methodLink R_law 173 yX12_about ∈ x_TT := x_TT_of (tq_9 (List.mem_of_getElem? (i := 88) rfl)) rfl
set_option maxRecDepth 100000 in
theorem law_0 {v : lV} {j : Nat} {S M : xSt} (hR : Rel S M) (hj : j + 6 ≤ lL v) (hL : lL v ≤ 3072) (next : ∀ S1 M1, Rel S1 M1 → XL v 1241 [] (nI j) S1 M1) : XL v 200 [] (nI j) S M := by
  refine l_aload (x_at tdL_0 0 rfl) rfl rfl ?_
  refine l_arg (k := 1) (x_at tdL_0 1 rfl) (x_at tdL_0 2 rfl) (x_at tdL_0 3 rfl) (x_at tdL_0 4 rfl) (x_at tdL_0 5 rfl) (by decide) (by decide) hj hL ?_
  refine l_arg (k := 2) (x_at tdL_0 6 rfl) (x_at tdL_0 7 rfl) (x_at tdL_0 8 rfl) (x_at tdL_0 9 rfl) (x_at tdL_0 10 rfl) (by decide) (by decide) hj hL ?_
  refine l_arg (k := 3) (x_at tdL_0 11 rfl) (x_at tdL_0 12 rfl) (x_at tdL_0 13 rfl) (x_at tdL_0 14 rfl) (x_at tdL_0 15 rfl) (by decide) (by decide) hj hL ?_
  refine l_arg (k := 4) (x_at tdL_0 16 rfl) (x_at tdL_0 17 rfl) (x_at tdL_0 18 rfl) (x_at tdL_0 19 rfl) (x_at tdL_0 20 rfl) (by decide) (by decide) hj hL ?_
  refine l_arg (k := 5) (x_at tdL_0 21 rfl) (x_at tdL_0 22 rfl) (x_at tdL_0 23 rfl) (x_at tdL_0 24 rfl) (x_at tdL_0 25 rfl) (by decide) (by decide) hj hL ?_
  have h2 := (OKi.to2 (sim_feed (hc := lcH v) (hm := lmH v) (d := 0) (e := 0) hR ((lX v (j + 1))) ((lX v (j + 2))) ((lX v (j + 3))) ((lX v (j + 4))) ((lX v (j + 5)))))
  refine l_callC (as := [.int (lX v (j + 1)), .int (lX v (j + 2)), .int (lX v (j + 3)), .int (lX v (j + 4)), .int (lX v (j + 5))]) (rest := []) mi_X11_feed vc_11 (x_at tdL_0 26 rfl) wm_L_13 rfl (Nat.le_of_ble_eq_true rfl) rfl (by decide) h2 (fun r S1 q => ?_)
  obtain ⟨r, rfl, q⟩ := q
  refine l_aload (x_at tdL_0 27 rfl) rfl rfl ?_
  refine l_arg (k := 1) (x_at tdL_0 28 rfl) (x_at tdL_0 29 rfl) (x_at tdL_0 30 rfl) (x_at tdL_0 31 rfl) (x_at tdL_0 32 rfl) (by decide) (by decide) hj hL ?_
  refine l_arg (k := 2) (x_at tdL_0 33 rfl) (x_at tdL_0 34 rfl) (x_at tdL_0 35 rfl) (x_at tdL_0 36 rfl) (x_at tdL_0 37 rfl) (by decide) (by decide) hj hL ?_
  refine l_arg (k := 3) (x_at tdL_0 38 rfl) (x_at tdL_0 39 rfl) (x_at tdL_0 40 rfl) (x_at tdL_0 41 rfl) (x_at tdL_0 42 rfl) (by decide) (by decide) hj hL ?_
  refine l_arg (k := 4) (x_at tdL_0 43 rfl) (x_at tdL_0 44 rfl) (x_at tdL_0 45 rfl) (x_at tdL_0 46 rfl) (x_at tdL_0 47 rfl) (by decide) (by decide) hj hL ?_
  refine l_arg (k := 5) (x_at tdL_0 48 rfl) (x_at tdL_0 49 rfl) (x_at tdL_0 50 rfl) (x_at tdL_0 51 rfl) (x_at tdL_0 52 rfl) (by decide) (by decide) hj hL ?_
  refine l_callM (as := [.int (lX v (j + 1)), .int (lX v (j + 2)), .int (lX v (j + 3)), .int (lX v (j + 4)), .int (lX v (j + 5))]) (rest := [.int r]) (Kc := kI (fun r2 M1 => r2 = r ∧ Rel S1 M1)) mi_X12_feed vc_12 (x_at tdL_0 53 rfl) wm_L_17 rfl (Nat.le_of_ble_eq_true rfl) rfl (by decide) q (fun r2 M1 q2 => ?_)
  obtain ⟨r2, rfl, e1, hR1⟩ := q2
  exact l_ic_eq 1241 (x_at tdL_0 54 rfl) (by decide) e1.symm (next _ _ hR1)
set_option maxRecDepth 100000 in
theorem law_1 {v : lV} {j : Nat} {S M : xSt} (hR : Rel S M) (hj : j + 6 ≤ lL v) (hL : lL v ≤ 3072) (next : ∀ S1 M1, Rel S1 M1 → XL v 1241 [] (nI j) S1 M1) : XL v 263 [] (nI j) S M := by
  refine l_aload (x_at tdL_1 0 rfl) rfl rfl ?_
  refine l_arg (k := 1) (x_at tdL_1 1 rfl) (x_at tdL_1 2 rfl) (x_at tdL_1 3 rfl) (x_at tdL_1 4 rfl) (x_at tdL_1 5 rfl) (by decide) (by decide) hj hL ?_
  have h2 := (OKi.to2 (sim_end (hc := lcH v) (hm := lmH v) (d := 0) (e := 0) hR ((lX v (j + 1)))))
  refine l_callC (as := [.int (lX v (j + 1))]) (rest := []) mi_X11_end vc_11 (x_at tdL_1 6 rfl) wm_L_18 rfl (Nat.le_of_ble_eq_true rfl) rfl (by decide) h2 (fun r S1 q => ?_)
  obtain ⟨r, rfl, q⟩ := q
  refine l_aload (x_at tdL_1 7 rfl) rfl rfl ?_
  refine l_arg (k := 1) (x_at tdL_1 8 rfl) (x_at tdL_1 9 rfl) (x_at tdL_1 10 rfl) (x_at tdL_1 11 rfl) (x_at tdL_1 12 rfl) (by decide) (by decide) hj hL ?_
  refine l_callM (as := [.int (lX v (j + 1))]) (rest := [.int r]) (Kc := kI (fun r2 M1 => r2 = r ∧ Rel S1 M1)) mi_X12_end vc_12 (x_at tdL_1 13 rfl) wm_L_22 rfl (Nat.le_of_ble_eq_true rfl) rfl (by decide) q (fun r2 M1 q2 => ?_)
  obtain ⟨r2, rfl, e1, hR1⟩ := q2
  exact l_ic_eq 1241 (x_at tdL_1 14 rfl) (by decide) e1.symm (next _ _ hR1)
set_option maxRecDepth 100000 in
theorem law_2 {v : lV} {j : Nat} {S M : xSt} (hR : Rel S M) (hj : j + 6 ≤ lL v) (hL : lL v ≤ 3072) (next : ∀ S1 M1, Rel S1 M1 → XL v 1241 [] (nI j) S1 M1) : XL v 286 [] (nI j) S M := by
  refine l_aload (x_at tdL_2 0 rfl) rfl rfl ?_
  have h2 := (OKi.to2 (sim_regiment (hc := lcH v) (hm := lmH v) (d := 0) (e := 0) hR))
  refine l_callC (as := []) (rest := []) mi_X11_regiment vc_11 (x_at tdL_2 1 rfl) wm_L_23 rfl (Nat.le_of_ble_eq_true rfl) rfl (by decide) h2 (fun r S1 q => ?_)
  obtain ⟨r, rfl, q⟩ := q
  refine l_aload (x_at tdL_2 2 rfl) rfl rfl ?_
  refine l_callM (as := []) (rest := [.int r]) (Kc := kI (fun r2 M1 => r2 = r ∧ Rel S1 M1)) mi_X12_regiment vc_12 (x_at tdL_2 3 rfl) wm_L_27 rfl (Nat.le_of_ble_eq_true rfl) rfl (by decide) q (fun r2 M1 q2 => ?_)
  obtain ⟨r2, rfl, e1, hR1⟩ := q2
  exact l_ic_eq 1241 (x_at tdL_2 4 rfl) (by decide) e1.symm (next _ _ hR1)
set_option maxRecDepth 100000 in
theorem law_3 {v : lV} {j : Nat} {S M : xSt} (hR : Rel S M) (hj : j + 6 ≤ lL v) (hL : lL v ≤ 3072) (next : ∀ S1 M1, Rel S1 M1 → XL v 1241 [] (nI j) S1 M1) : XL v 299 [] (nI j) S M := by
  refine l_aload (x_at tdL_3 0 rfl) rfl rfl ?_
  refine l_arg (k := 1) (x_at tdL_3 1 rfl) (x_at tdL_3 2 rfl) (x_at tdL_3 3 rfl) (x_at tdL_3 4 rfl) (x_at tdL_3 5 rfl) (by decide) (by decide) hj hL ?_
  have h2 := (OKi.to2 (sim_fault (hc := lcH v) (hm := lmH v) (d := 0) (e := 0) hR ((lX v (j + 1)))))
  refine l_callC (as := [.int (lX v (j + 1))]) (rest := []) mi_X11_fault vc_11 (x_at tdL_3 6 rfl) wm_L_28 rfl (Nat.le_of_ble_eq_true rfl) rfl (by decide) h2 (fun r S1 q => ?_)
  obtain ⟨r, rfl, q⟩ := q
  refine l_aload (x_at tdL_3 7 rfl) rfl rfl ?_
  refine l_arg (k := 1) (x_at tdL_3 8 rfl) (x_at tdL_3 9 rfl) (x_at tdL_3 10 rfl) (x_at tdL_3 11 rfl) (x_at tdL_3 12 rfl) (by decide) (by decide) hj hL ?_
  refine l_callM (as := [.int (lX v (j + 1))]) (rest := [.int r]) (Kc := kI (fun r2 M1 => r2 = r ∧ Rel S1 M1)) mi_X12_fault vc_12 (x_at tdL_3 13 rfl) wm_L_31 rfl (Nat.le_of_ble_eq_true rfl) rfl (by decide) q (fun r2 M1 q2 => ?_)
  obtain ⟨r2, rfl, e1, hR1⟩ := q2
  exact l_ic_eq 1241 (x_at tdL_3 14 rfl) (by decide) e1.symm (next _ _ hR1)
set_option maxRecDepth 100000 in
theorem law_4 {v : lV} {j : Nat} {S M : xSt} (hR : Rel S M) (hj : j + 6 ≤ lL v) (hL : lL v ≤ 3072) (next : ∀ S1 M1, Rel S1 M1 → XL v 1241 [] (nI j) S1 M1) : XL v 322 [] (nI j) S M := by
  refine l_aload (x_at tdL_4 0 rfl) rfl rfl ?_
  refine l_arg (k := 1) (x_at tdL_4 1 rfl) (x_at tdL_4 2 rfl) (x_at tdL_4 3 rfl) (x_at tdL_4 4 rfl) (x_at tdL_4 5 rfl) (by decide) (by decide) hj hL ?_
  refine l_arg (k := 2) (x_at tdL_4 6 rfl) (x_at tdL_4 7 rfl) (x_at tdL_4 8 rfl) (x_at tdL_4 9 rfl) (x_at tdL_4 10 rfl) (by decide) (by decide) hj hL ?_
  have h2 := (OKi.to2 (sim_button (hc := lcH v) (hm := lmH v) (d := 0) (e := 0) hR ((lX v (j + 1))) ((lX v (j + 2)))))
  refine l_callC (as := [.int (lX v (j + 1)), .int (lX v (j + 2))]) (rest := []) mi_X11_button vc_11 (x_at tdL_4 11 rfl) wm_L_32 rfl (Nat.le_of_ble_eq_true rfl) rfl (by decide) h2 (fun r S1 q => ?_)
  obtain ⟨r, rfl, q⟩ := q
  refine l_aload (x_at tdL_4 12 rfl) rfl rfl ?_
  refine l_arg (k := 1) (x_at tdL_4 13 rfl) (x_at tdL_4 14 rfl) (x_at tdL_4 15 rfl) (x_at tdL_4 16 rfl) (x_at tdL_4 17 rfl) (by decide) (by decide) hj hL ?_
  refine l_arg (k := 2) (x_at tdL_4 18 rfl) (x_at tdL_4 19 rfl) (x_at tdL_4 20 rfl) (x_at tdL_4 21 rfl) (x_at tdL_4 22 rfl) (by decide) (by decide) hj hL ?_
  refine l_callM (as := [.int (lX v (j + 1)), .int (lX v (j + 2))]) (rest := [.int r]) (Kc := kI (fun r2 M1 => r2 = r ∧ Rel S1 M1)) mi_X12_button vc_12 (x_at tdL_4 23 rfl) wm_L_36 rfl (Nat.le_of_ble_eq_true rfl) rfl (by decide) q (fun r2 M1 q2 => ?_)
  obtain ⟨r2, rfl, e1, hR1⟩ := q2
  exact l_ic_eq 1241 (x_at tdL_4 24 rfl) (by decide) e1.symm (next _ _ hR1)
set_option maxRecDepth 100000 in
theorem law_5 {v : lV} {j : Nat} {S M : xSt} (hR : Rel S M) (hj : j + 6 ≤ lL v) (hL : lL v ≤ 3072) (next : ∀ S1 M1, Rel S1 M1 → XL v 1241 [] (nI j) S1 M1) : XL v 355 [] (nI j) S M := by
  refine l_aload (x_at tdL_5 0 rfl) rfl rfl ?_
  refine l_arg (k := 1) (x_at tdL_5 1 rfl) (x_at tdL_5 2 rfl) (x_at tdL_5 3 rfl) (x_at tdL_5 4 rfl) (x_at tdL_5 5 rfl) (by decide) (by decide) hj hL ?_
  refine l_arg (k := 2) (x_at tdL_5 6 rfl) (x_at tdL_5 7 rfl) (x_at tdL_5 8 rfl) (x_at tdL_5 9 rfl) (x_at tdL_5 10 rfl) (by decide) (by decide) hj hL ?_
  have h2 := (OKi.to2 (sim_coat (hc := lcH v) (hm := lmH v) (d := 0) (e := 0) hR ((lX v (j + 1))) ((lX v (j + 2)))))
  refine l_callC (as := [.int (lX v (j + 1)), .int (lX v (j + 2))]) (rest := []) mi_X11_coat vc_11 (x_at tdL_5 11 rfl) wm_L_37 rfl (Nat.le_of_ble_eq_true rfl) rfl (by decide) h2 (fun r S1 q => ?_)
  obtain ⟨r, rfl, q⟩ := q
  refine l_aload (x_at tdL_5 12 rfl) rfl rfl ?_
  refine l_arg (k := 1) (x_at tdL_5 13 rfl) (x_at tdL_5 14 rfl) (x_at tdL_5 15 rfl) (x_at tdL_5 16 rfl) (x_at tdL_5 17 rfl) (by decide) (by decide) hj hL ?_
  refine l_arg (k := 2) (x_at tdL_5 18 rfl) (x_at tdL_5 19 rfl) (x_at tdL_5 20 rfl) (x_at tdL_5 21 rfl) (x_at tdL_5 22 rfl) (by decide) (by decide) hj hL ?_
  refine l_callM (as := [.int (lX v (j + 1)), .int (lX v (j + 2))]) (rest := [.int r]) (Kc := kI (fun r2 M1 => r2 = r ∧ Rel S1 M1)) mi_X12_coat vc_12 (x_at tdL_5 23 rfl) wm_L_40 rfl (Nat.le_of_ble_eq_true rfl) rfl (by decide) q (fun r2 M1 q2 => ?_)
  obtain ⟨r2, rfl, e1, hR1⟩ := q2
  exact l_ic_eq 1241 (x_at tdL_5 24 rfl) (by decide) e1.symm (next _ _ hR1)
set_option maxRecDepth 100000 in
theorem law_6 {v : lV} {j : Nat} {S M : xSt} (hR : Rel S M) (hj : j + 6 ≤ lL v) (hL : lL v ≤ 3072) (next : ∀ S1 M1, Rel S1 M1 → XL v 1241 [] (nI j) S1 M1) : XL v 388 [] (nI j) S M := by
  refine l_aload (x_at tdL_6 0 rfl) rfl rfl ?_
  have h2 := (OKi.to2 (sim_free (hc := lcH v) (hm := lmH v) (d := 0) (e := 0) hR))
  refine l_callC (as := []) (rest := []) mi_X11_free vc_11 (x_at tdL_6 1 rfl) wm_L_41 rfl (Nat.le_of_ble_eq_true rfl) rfl (by decide) h2 (fun r S1 q => ?_)
  obtain ⟨r, rfl, q⟩ := q
  refine l_aload (x_at tdL_6 2 rfl) rfl rfl ?_
  refine l_callM (as := []) (rest := [.int r]) (Kc := kI (fun r2 M1 => r2 = r ∧ Rel S1 M1)) mi_X12_free vc_12 (x_at tdL_6 3 rfl) wm_L_44 rfl (Nat.le_of_ble_eq_true rfl) rfl (by decide) q (fun r2 M1 q2 => ?_)
  obtain ⟨r2, rfl, e1, hR1⟩ := q2
  exact l_ic_eq 1241 (x_at tdL_6 4 rfl) (by decide) e1.symm (next _ _ hR1)
set_option maxRecDepth 100000 in
theorem law_7 {v : lV} {j : Nat} {S M : xSt} (hR : Rel S M) (hj : j + 6 ≤ lL v) (hL : lL v ≤ 3072) (next : ∀ S1 M1, Rel S1 M1 → XL v 1241 [] (nI j) S1 M1) : XL v 401 [] (nI j) S M := by
  refine l_aload (x_at tdL_7 0 rfl) rfl rfl ?_
  refine l_arg (k := 1) (x_at tdL_7 1 rfl) (x_at tdL_7 2 rfl) (x_at tdL_7 3 rfl) (x_at tdL_7 4 rfl) (x_at tdL_7 5 rfl) (by decide) (by decide) hj hL ?_
  refine l_arg (k := 2) (x_at tdL_7 6 rfl) (x_at tdL_7 7 rfl) (x_at tdL_7 8 rfl) (x_at tdL_7 9 rfl) (x_at tdL_7 10 rfl) (by decide) (by decide) hj hL ?_
  have h2 := (OKi.to2 (sim_sworn (hc := lcH v) (hm := lmH v) (d := 0) (e := 0) hR ((lX v (j + 1))) ((lX v (j + 2)))))
  refine l_callC (as := [.int (lX v (j + 1)), .int (lX v (j + 2))]) (rest := []) mi_X11_sworn vc_11 (x_at tdL_7 11 rfl) wm_L_45 rfl (Nat.le_of_ble_eq_true rfl) rfl (by decide) h2 (fun r S1 q => ?_)
  obtain ⟨r, rfl, q⟩ := q
  refine l_aload (x_at tdL_7 12 rfl) rfl rfl ?_
  refine l_arg (k := 1) (x_at tdL_7 13 rfl) (x_at tdL_7 14 rfl) (x_at tdL_7 15 rfl) (x_at tdL_7 16 rfl) (x_at tdL_7 17 rfl) (by decide) (by decide) hj hL ?_
  refine l_arg (k := 2) (x_at tdL_7 18 rfl) (x_at tdL_7 19 rfl) (x_at tdL_7 20 rfl) (x_at tdL_7 21 rfl) (x_at tdL_7 22 rfl) (by decide) (by decide) hj hL ?_
  refine l_callM (as := [.int (lX v (j + 1)), .int (lX v (j + 2))]) (rest := [.int r]) (Kc := kI (fun r2 M1 => r2 = r ∧ Rel S1 M1)) mi_X12_sworn vc_12 (x_at tdL_7 23 rfl) wm_L_48 rfl (Nat.le_of_ble_eq_true rfl) rfl (by decide) q (fun r2 M1 q2 => ?_)
  obtain ⟨r2, rfl, e1, hR1⟩ := q2
  exact l_ic_eq 1241 (x_at tdL_7 24 rfl) (by decide) e1.symm (next _ _ hR1)
set_option maxRecDepth 100000 in
theorem law_8 {v : lV} {j : Nat} {S M : xSt} (hR : Rel S M) (hj : j + 6 ≤ lL v) (hL : lL v ≤ 3072) (next : ∀ S1 M1, Rel S1 M1 → XL v 1241 [] (nI j) S1 M1) : XL v 434 [] (nI j) S M := by
  refine l_aload (x_at tdL_8 0 rfl) rfl rfl ?_
  refine l_arg (k := 1) (x_at tdL_8 1 rfl) (x_at tdL_8 2 rfl) (x_at tdL_8 3 rfl) (x_at tdL_8 4 rfl) (x_at tdL_8 5 rfl) (by decide) (by decide) hj hL ?_
  have h2 := (OKi.to2 (sim_many (hc := lcH v) (hm := lmH v) (d := 0) (e := 0) hR ((lX v (j + 1)))))
  refine l_callC (as := [.int (lX v (j + 1))]) (rest := []) mi_X11_many vc_11 (x_at tdL_8 6 rfl) wm_L_49 rfl (Nat.le_of_ble_eq_true rfl) rfl (by decide) h2 (fun r S1 q => ?_)
  obtain ⟨r, rfl, q⟩ := q
  refine l_aload (x_at tdL_8 7 rfl) rfl rfl ?_
  refine l_arg (k := 1) (x_at tdL_8 8 rfl) (x_at tdL_8 9 rfl) (x_at tdL_8 10 rfl) (x_at tdL_8 11 rfl) (x_at tdL_8 12 rfl) (by decide) (by decide) hj hL ?_
  refine l_callM (as := [.int (lX v (j + 1))]) (rest := [.int r]) (Kc := kI (fun r2 M1 => r2 = r ∧ Rel S1 M1)) mi_X12_many vc_12 (x_at tdL_8 13 rfl) wm_L_52 rfl (Nat.le_of_ble_eq_true rfl) rfl (by decide) q (fun r2 M1 q2 => ?_)
  obtain ⟨r2, rfl, e1, hR1⟩ := q2
  exact l_ic_eq 1241 (x_at tdL_8 14 rfl) (by decide) e1.symm (next _ _ hR1)
set_option maxRecDepth 100000 in
theorem law_9 {v : lV} {j : Nat} {S M : xSt} (hR : Rel S M) (hj : j + 6 ≤ lL v) (hL : lL v ≤ 3072) (next : ∀ S1 M1, Rel S1 M1 → XL v 1241 [] (nI j) S1 M1) : XL v 457 [] (nI j) S M := by
  refine l_aload (x_at tdL_9 0 rfl) rfl rfl ?_
  refine l_arg (k := 1) (x_at tdL_9 1 rfl) (x_at tdL_9 2 rfl) (x_at tdL_9 3 rfl) (x_at tdL_9 4 rfl) (x_at tdL_9 5 rfl) (by decide) (by decide) hj hL ?_
  refine l_arg (k := 2) (x_at tdL_9 6 rfl) (x_at tdL_9 7 rfl) (x_at tdL_9 8 rfl) (x_at tdL_9 9 rfl) (x_at tdL_9 10 rfl) (by decide) (by decide) hj hL ?_
  have h2 := (OKi.to2 (sim_does (hc := lcH v) (hm := lmH v) (d := 0) (e := 0) hR ((lX v (j + 1))) ((lX v (j + 2)))))
  refine l_callC (as := [.int (lX v (j + 1)), .int (lX v (j + 2))]) (rest := []) mi_X11_does vc_11 (x_at tdL_9 11 rfl) wm_L_53 rfl (Nat.le_of_ble_eq_true rfl) rfl (by decide) h2 (fun r S1 q => ?_)
  obtain ⟨r, rfl, q⟩ := q
  refine l_aload (x_at tdL_9 12 rfl) rfl rfl ?_
  refine l_arg (k := 1) (x_at tdL_9 13 rfl) (x_at tdL_9 14 rfl) (x_at tdL_9 15 rfl) (x_at tdL_9 16 rfl) (x_at tdL_9 17 rfl) (by decide) (by decide) hj hL ?_
  refine l_arg (k := 2) (x_at tdL_9 18 rfl) (x_at tdL_9 19 rfl) (x_at tdL_9 20 rfl) (x_at tdL_9 21 rfl) (x_at tdL_9 22 rfl) (by decide) (by decide) hj hL ?_
  refine l_callM (as := [.int (lX v (j + 1)), .int (lX v (j + 2))]) (rest := [.int r]) (Kc := kI (fun r2 M1 => r2 = r ∧ Rel S1 M1)) mi_X12_does vc_12 (x_at tdL_9 23 rfl) wm_L_56 rfl (Nat.le_of_ble_eq_true rfl) rfl (by decide) q (fun r2 M1 q2 => ?_)
  obtain ⟨r2, rfl, e1, hR1⟩ := q2
  exact l_ic_eq 1241 (x_at tdL_9 24 rfl) (by decide) e1.symm (next _ _ hR1)
set_option maxRecDepth 100000 in
theorem law_10 {v : lV} {j : Nat} {S M : xSt} (hR : Rel S M) (hj : j + 6 ≤ lL v) (hL : lL v ≤ 3072) (next : ∀ S1 M1, Rel S1 M1 → XL v 1241 [] (nI j) S1 M1) : XL v 490 [] (nI j) S M := by
  refine l_aload (x_at tdL_10 0 rfl) rfl rfl ?_
  refine l_arg (k := 1) (x_at tdL_10 1 rfl) (x_at tdL_10 2 rfl) (x_at tdL_10 3 rfl) (x_at tdL_10 4 rfl) (x_at tdL_10 5 rfl) (by decide) (by decide) hj hL ?_
  have h2 := (OKi.to2 (sim_undoes (hc := lcH v) (hm := lmH v) (d := 0) (e := 0) hR ((lX v (j + 1)))))
  refine l_callC (as := [.int (lX v (j + 1))]) (rest := []) mi_X11_undoes vc_11 (x_at tdL_10 6 rfl) wm_L_57 rfl (Nat.le_of_ble_eq_true rfl) rfl (by decide) h2 (fun r S1 q => ?_)
  obtain ⟨r, rfl, q⟩ := q
  refine l_aload (x_at tdL_10 7 rfl) rfl rfl ?_
  refine l_arg (k := 1) (x_at tdL_10 8 rfl) (x_at tdL_10 9 rfl) (x_at tdL_10 10 rfl) (x_at tdL_10 11 rfl) (x_at tdL_10 12 rfl) (by decide) (by decide) hj hL ?_
  refine l_callM (as := [.int (lX v (j + 1))]) (rest := [.int r]) (Kc := kI (fun r2 M1 => r2 = r ∧ Rel S1 M1)) mi_X12_undoes vc_12 (x_at tdL_10 13 rfl) wm_L_61 rfl (Nat.le_of_ble_eq_true rfl) rfl (by decide) q (fun r2 M1 q2 => ?_)
  obtain ⟨r2, rfl, e1, hR1⟩ := q2
  exact l_ic_eq 1241 (x_at tdL_10 14 rfl) (by decide) e1.symm (next _ _ hR1)
set_option maxRecDepth 100000 in
theorem law_11 {v : lV} {j : Nat} {S M : xSt} (hR : Rel S M) (hj : j + 6 ≤ lL v) (hL : lL v ≤ 3072) (next : ∀ S1 M1, Rel S1 M1 → XL v 1241 [] (nI j) S1 M1) : XL v 513 [] (nI j) S M := by
  refine l_aload (x_at tdL_11 0 rfl) rfl rfl ?_
  refine l_arg (k := 1) (x_at tdL_11 1 rfl) (x_at tdL_11 2 rfl) (x_at tdL_11 3 rfl) (x_at tdL_11 4 rfl) (x_at tdL_11 5 rfl) (by decide) (by decide) hj hL ?_
  have h2 := (OKi.to2 (sim_cut (hc := lcH v) (hm := lmH v) (d := 0) (e := 0) hR ((lX v (j + 1)))))
  refine l_callC (as := [.int (lX v (j + 1))]) (rest := []) mi_X11_cut vc_11 (x_at tdL_11 6 rfl) wm_L_62 rfl (Nat.le_of_ble_eq_true rfl) rfl (by decide) h2 (fun r S1 q => ?_)
  obtain ⟨r, rfl, q⟩ := q
  refine l_aload (x_at tdL_11 7 rfl) rfl rfl ?_
  refine l_arg (k := 1) (x_at tdL_11 8 rfl) (x_at tdL_11 9 rfl) (x_at tdL_11 10 rfl) (x_at tdL_11 11 rfl) (x_at tdL_11 12 rfl) (by decide) (by decide) hj hL ?_
  refine l_callM (as := [.int (lX v (j + 1))]) (rest := [.int r]) (Kc := kI (fun r2 M1 => r2 = r ∧ Rel S1 M1)) mi_X12_cut vc_12 (x_at tdL_11 13 rfl) wm_L_65 rfl (Nat.le_of_ble_eq_true rfl) rfl (by decide) q (fun r2 M1 q2 => ?_)
  obtain ⟨r2, rfl, e1, hR1⟩ := q2
  exact l_ic_eq 1241 (x_at tdL_11 14 rfl) (by decide) e1.symm (next _ _ hR1)
set_option maxRecDepth 100000 in
theorem law_12 {v : lV} {j : Nat} {S M : xSt} (hR : Rel S M) (hj : j + 6 ≤ lL v) (hL : lL v ≤ 3072) (next : ∀ S1 M1, Rel S1 M1 → XL v 1241 [] (nI j) S1 M1) : XL v 536 [] (nI j) S M := by
  refine l_aload (x_at tdL_12 0 rfl) rfl rfl ?_
  refine l_arg (k := 1) (x_at tdL_12 1 rfl) (x_at tdL_12 2 rfl) (x_at tdL_12 3 rfl) (x_at tdL_12 4 rfl) (x_at tdL_12 5 rfl) (by decide) (by decide) hj hL ?_
  have h2 := (OKi.to2 (sim_sew (hc := lcH v) (hm := lmH v) (d := 0) (e := 0) hR ((lX v (j + 1)))))
  refine l_callC (as := [.int (lX v (j + 1))]) (rest := []) mi_X11_sew vc_11 (x_at tdL_12 6 rfl) wm_L_66 rfl (Nat.le_of_ble_eq_true rfl) rfl (by decide) h2 (fun r S1 q => ?_)
  obtain ⟨r, rfl, q⟩ := q
  refine l_aload (x_at tdL_12 7 rfl) rfl rfl ?_
  refine l_arg (k := 1) (x_at tdL_12 8 rfl) (x_at tdL_12 9 rfl) (x_at tdL_12 10 rfl) (x_at tdL_12 11 rfl) (x_at tdL_12 12 rfl) (by decide) (by decide) hj hL ?_
  refine l_callM (as := [.int (lX v (j + 1))]) (rest := [.int r]) (Kc := kI (fun r2 M1 => r2 = r ∧ Rel S1 M1)) mi_X12_sew vc_12 (x_at tdL_12 13 rfl) wm_L_69 rfl (Nat.le_of_ble_eq_true rfl) rfl (by decide) q (fun r2 M1 q2 => ?_)
  obtain ⟨r2, rfl, e1, hR1⟩ := q2
  exact l_ic_eq 1241 (x_at tdL_12 14 rfl) (by decide) e1.symm (next _ _ hR1)
set_option maxRecDepth 100000 in
theorem law_13 {v : lV} {j : Nat} {S M : xSt} (hR : Rel S M) (hj : j + 6 ≤ lL v) (hL : lL v ≤ 3072) (next : ∀ S1 M1, Rel S1 M1 → XL v 1241 [] (nI j) S1 M1) : XL v 559 [] (nI j) S M := by
  refine l_aload (x_at tdL_13 0 rfl) rfl rfl ?_
  have h2 := (sim_day (hc := lcH v) (hm := lmH v) (d := 0) (e := 0) hR)
  refine l_callC (as := []) (rest := []) mi_X11_day vc_11 (x_at tdL_13 1 rfl) wm_L_70 rfl (Nat.le_of_ble_eq_true rfl) rfl (by decide) h2 (fun r S1 q => ?_)
  obtain ⟨r, rfl, q⟩ := q
  refine l_aload (x_at tdL_13 2 rfl) rfl rfl ?_
  refine l_callM (as := []) (rest := [.int r]) (Kc := kI (fun r2 M1 => r2 = r ∧ Rel S1 M1)) mi_X12_day vc_12 (x_at tdL_13 3 rfl) wm_L_73 rfl (Nat.le_of_ble_eq_true rfl) rfl (by decide) q (fun r2 M1 q2 => ?_)
  obtain ⟨r2, rfl, e1, hR1⟩ := q2
  exact l_ic_eq 1241 (x_at tdL_13 4 rfl) (by decide) e1.symm (next _ _ hR1)
set_option maxRecDepth 100000 in
theorem law_14 {v : lV} {j : Nat} {S M : xSt} (hR : Rel S M) (hj : j + 6 ≤ lL v) (hL : lL v ≤ 3072) (next : ∀ S1 M1, Rel S1 M1 → XL v 1241 [] (nI j) S1 M1) : XL v 572 [] (nI j) S M := by
  refine l_aload (x_at tdL_14 0 rfl) rfl rfl ?_
  have h2 := (OKi.to2 (sim_undo (hc := lcH v) (hm := lmH v) (d := 0) (e := 0) hR))
  refine l_callC (as := []) (rest := []) mi_X11_undo vc_11 (x_at tdL_14 1 rfl) wm_L_74 rfl (Nat.le_of_ble_eq_true rfl) rfl (by decide) h2 (fun r S1 q => ?_)
  obtain ⟨r, rfl, q⟩ := q
  refine l_aload (x_at tdL_14 2 rfl) rfl rfl ?_
  refine l_callM (as := []) (rest := [.int r]) (Kc := kI (fun r2 M1 => r2 = r ∧ Rel S1 M1)) mi_X12_undo vc_12 (x_at tdL_14 3 rfl) wm_L_78 rfl (Nat.le_of_ble_eq_true rfl) rfl (by decide) q (fun r2 M1 q2 => ?_)
  obtain ⟨r2, rfl, e1, hR1⟩ := q2
  exact l_ic_eq 1241 (x_at tdL_14 4 rfl) (by decide) e1.symm (next _ _ hR1)
set_option maxRecDepth 100000 in
theorem law_15 {v : lV} {j : Nat} {S M : xSt} (hR : Rel S M) (hj : j + 6 ≤ lL v) (hL : lL v ≤ 3072) (next : ∀ S1 M1, Rel S1 M1 → XL v 1241 [] (nI j) S1 M1) : XL v 585 [] (nI j) S M := by
  refine l_aload (x_at tdL_15 0 rfl) rfl rfl ?_
  have h2 := (OKi.to2 (sim_redo (hc := lcH v) (hm := lmH v) (d := 0) (e := 0) hR))
  refine l_callC (as := []) (rest := []) mi_X11_redo vc_11 (x_at tdL_15 1 rfl) wm_L_79 rfl (Nat.le_of_ble_eq_true rfl) rfl (by decide) h2 (fun r S1 q => ?_)
  obtain ⟨r, rfl, q⟩ := q
  refine l_aload (x_at tdL_15 2 rfl) rfl rfl ?_
  refine l_callM (as := []) (rest := [.int r]) (Kc := kI (fun r2 M1 => r2 = r ∧ Rel S1 M1)) mi_X12_redo vc_12 (x_at tdL_15 3 rfl) wm_L_82 rfl (Nat.le_of_ble_eq_true rfl) rfl (by decide) q (fun r2 M1 q2 => ?_)
  obtain ⟨r2, rfl, e1, hR1⟩ := q2
  exact l_ic_eq 1241 (x_at tdL_15 4 rfl) (by decide) e1.symm (next _ _ hR1)
set_option maxRecDepth 100000 in
theorem law_16 {v : lV} {j : Nat} {S M : xSt} (hR : Rel S M) (hj : j + 6 ≤ lL v) (hL : lL v ≤ 3072) (next : ∀ S1 M1, Rel S1 M1 → XL v 1241 [] (nI j) S1 M1) : XL v 598 [] (nI j) S M := by
  refine l_aload (x_at tdL_16 0 rfl) rfl rfl ?_
  refine l_arg (k := 1) (x_at tdL_16 1 rfl) (x_at tdL_16 2 rfl) (x_at tdL_16 3 rfl) (x_at tdL_16 4 rfl) (x_at tdL_16 5 rfl) (by decide) (by decide) hj hL ?_
  refine l_arg (k := 2) (x_at tdL_16 6 rfl) (x_at tdL_16 7 rfl) (x_at tdL_16 8 rfl) (x_at tdL_16 9 rfl) (x_at tdL_16 10 rfl) (by decide) (by decide) hj hL ?_
  have h2 := (sim_keep (hc := lcH v) (hm := lmH v) (d := 0) (e := 0) hR ((lX v (j + 1))) ((lX v (j + 2))))
  refine l_callC (as := [.int (lX v (j + 1)), .int (lX v (j + 2))]) (rest := []) mi_X11_keep vc_11 (x_at tdL_16 11 rfl) wm_L_83 rfl (Nat.le_of_ble_eq_true rfl) rfl (by decide) h2 (fun r S1 q => ?_)
  obtain ⟨r, rfl, q⟩ := q
  refine l_aload (x_at tdL_16 12 rfl) rfl rfl ?_
  refine l_arg (k := 1) (x_at tdL_16 13 rfl) (x_at tdL_16 14 rfl) (x_at tdL_16 15 rfl) (x_at tdL_16 16 rfl) (x_at tdL_16 17 rfl) (by decide) (by decide) hj hL ?_
  refine l_arg (k := 2) (x_at tdL_16 18 rfl) (x_at tdL_16 19 rfl) (x_at tdL_16 20 rfl) (x_at tdL_16 21 rfl) (x_at tdL_16 22 rfl) (by decide) (by decide) hj hL ?_
  refine l_callM (as := [.int (lX v (j + 1)), .int (lX v (j + 2))]) (rest := [.int r]) (Kc := kI (fun r2 M1 => r2 = r ∧ Rel S1 M1)) mi_X12_keep vc_12 (x_at tdL_16 23 rfl) wm_L_86 rfl (Nat.le_of_ble_eq_true rfl) rfl (by decide) q (fun r2 M1 q2 => ?_)
  obtain ⟨r2, rfl, e1, hR1⟩ := q2
  exact l_ic_eq 1241 (x_at tdL_16 24 rfl) (by decide) e1.symm (next _ _ hR1)
set_option maxRecDepth 100000 in
theorem law_17 {v : lV} {j : Nat} {S M : xSt} (hR : Rel S M) (hj : j + 6 ≤ lL v) (hL : lL v ≤ 3072) (next : ∀ S1 M1, Rel S1 M1 → XL v 1241 [] (nI j) S1 M1) : XL v 631 [] (nI j) S M := by
  refine l_aload (x_at tdL_17 0 rfl) rfl rfl ?_
  refine l_arg (k := 1) (x_at tdL_17 1 rfl) (x_at tdL_17 2 rfl) (x_at tdL_17 3 rfl) (x_at tdL_17 4 rfl) (x_at tdL_17 5 rfl) (by decide) (by decide) hj hL ?_
  have h2 := (sim_rest (hc := lcH v) (hm := lmH v) (d := 0) (e := 0) hR ((lX v (j + 1))))
  refine l_callC (as := [.int (lX v (j + 1))]) (rest := []) mi_X11_rest vc_11 (x_at tdL_17 6 rfl) wm_L_87 rfl (Nat.le_of_ble_eq_true rfl) rfl (by decide) h2 (fun r S1 q => ?_)
  obtain ⟨r, rfl, q⟩ := q
  refine l_aload (x_at tdL_17 7 rfl) rfl rfl ?_
  refine l_arg (k := 1) (x_at tdL_17 8 rfl) (x_at tdL_17 9 rfl) (x_at tdL_17 10 rfl) (x_at tdL_17 11 rfl) (x_at tdL_17 12 rfl) (by decide) (by decide) hj hL ?_
  refine l_callM (as := [.int (lX v (j + 1))]) (rest := [.int r]) (Kc := kI (fun r2 M1 => r2 = r ∧ Rel S1 M1)) mi_X12_rest vc_12 (x_at tdL_17 13 rfl) wm_L_90 rfl (Nat.le_of_ble_eq_true rfl) rfl (by decide) q (fun r2 M1 q2 => ?_)
  obtain ⟨r2, rfl, e1, hR1⟩ := q2
  exact l_ic_eq 1241 (x_at tdL_17 14 rfl) (by decide) e1.symm (next _ _ hR1)
set_option maxRecDepth 100000 in
theorem law_18 {v : lV} {j : Nat} {S M : xSt} (hR : Rel S M) (hj : j + 6 ≤ lL v) (hL : lL v ≤ 3072) (next : ∀ S1 M1, Rel S1 M1 → XL v 1241 [] (nI j) S1 M1) : XL v 654 [] (nI j) S M := by
  refine l_aload (x_at tdL_18 0 rfl) rfl rfl ?_
  refine l_arg (k := 1) (x_at tdL_18 1 rfl) (x_at tdL_18 2 rfl) (x_at tdL_18 3 rfl) (x_at tdL_18 4 rfl) (x_at tdL_18 5 rfl) (by decide) (by decide) hj hL ?_
  refine l_arg (k := 2) (x_at tdL_18 6 rfl) (x_at tdL_18 7 rfl) (x_at tdL_18 8 rfl) (x_at tdL_18 9 rfl) (x_at tdL_18 10 rfl) (by decide) (by decide) hj hL ?_
  have h2 := (OKi.to2 (sim_ties (hc := lcH v) (hm := lmH v) (d := 0) (e := 0) hR ((lX v (j + 1))) ((lX v (j + 2)))))
  refine l_callC (as := [.int (lX v (j + 1)), .int (lX v (j + 2))]) (rest := []) mi_X11_ties vc_11 (x_at tdL_18 11 rfl) wm_L_91 rfl (Nat.le_of_ble_eq_true rfl) rfl (by decide) h2 (fun r S1 q => ?_)
  obtain ⟨r, rfl, q⟩ := q
  refine l_aload (x_at tdL_18 12 rfl) rfl rfl ?_
  refine l_arg (k := 1) (x_at tdL_18 13 rfl) (x_at tdL_18 14 rfl) (x_at tdL_18 15 rfl) (x_at tdL_18 16 rfl) (x_at tdL_18 17 rfl) (by decide) (by decide) hj hL ?_
  refine l_arg (k := 2) (x_at tdL_18 18 rfl) (x_at tdL_18 19 rfl) (x_at tdL_18 20 rfl) (x_at tdL_18 21 rfl) (x_at tdL_18 22 rfl) (by decide) (by decide) hj hL ?_
  refine l_callM (as := [.int (lX v (j + 1)), .int (lX v (j + 2))]) (rest := [.int r]) (Kc := kI (fun r2 M1 => r2 = r ∧ Rel S1 M1)) mi_X12_ties vc_12 (x_at tdL_18 23 rfl) wm_L_94 rfl (Nat.le_of_ble_eq_true rfl) rfl (by decide) q (fun r2 M1 q2 => ?_)
  obtain ⟨r2, rfl, e1, hR1⟩ := q2
  exact l_ic_eq 1241 (x_at tdL_18 24 rfl) (by decide) e1.symm (next _ _ hR1)
set_option maxRecDepth 100000 in
theorem law_19 {v : lV} {j : Nat} {S M : xSt} (hR : Rel S M) (hj : j + 6 ≤ lL v) (hL : lL v ≤ 3072) (next : ∀ S1 M1, Rel S1 M1 → XL v 1241 [] (nI j) S1 M1) : XL v 687 [] (nI j) S M := by
  refine l_aload (x_at tdL_19 0 rfl) rfl rfl ?_
  refine l_arg (k := 1) (x_at tdL_19 1 rfl) (x_at tdL_19 2 rfl) (x_at tdL_19 3 rfl) (x_at tdL_19 4 rfl) (x_at tdL_19 5 rfl) (by decide) (by decide) hj hL ?_
  refine l_arg (k := 2) (x_at tdL_19 6 rfl) (x_at tdL_19 7 rfl) (x_at tdL_19 8 rfl) (x_at tdL_19 9 rfl) (x_at tdL_19 10 rfl) (by decide) (by decide) hj hL ?_
  have h2 := (sim_clash (hc := lcH v) (hm := lmH v) (d := 0) (e := 0) hR ((lX v (j + 1))) ((lX v (j + 2))))
  refine l_callC (as := [.int (lX v (j + 1)), .int (lX v (j + 2))]) (rest := []) mi_X11_clash vc_11 (x_at tdL_19 11 rfl) wm_L_95 rfl (Nat.le_of_ble_eq_true rfl) rfl (by decide) h2 (fun r S1 q => ?_)
  obtain ⟨r, rfl, q⟩ := q
  refine l_aload (x_at tdL_19 12 rfl) rfl rfl ?_
  refine l_arg (k := 1) (x_at tdL_19 13 rfl) (x_at tdL_19 14 rfl) (x_at tdL_19 15 rfl) (x_at tdL_19 16 rfl) (x_at tdL_19 17 rfl) (by decide) (by decide) hj hL ?_
  refine l_arg (k := 2) (x_at tdL_19 18 rfl) (x_at tdL_19 19 rfl) (x_at tdL_19 20 rfl) (x_at tdL_19 21 rfl) (x_at tdL_19 22 rfl) (by decide) (by decide) hj hL ?_
  refine l_callM (as := [.int (lX v (j + 1)), .int (lX v (j + 2))]) (rest := [.int r]) (Kc := kI (fun r2 M1 => r2 = r ∧ Rel S1 M1)) mi_X12_clash vc_12 (x_at tdL_19 23 rfl) wm_L_98 rfl (Nat.le_of_ble_eq_true rfl) rfl (by decide) q (fun r2 M1 q2 => ?_)
  obtain ⟨r2, rfl, e1, hR1⟩ := q2
  exact l_ic_eq 1241 (x_at tdL_19 24 rfl) (by decide) e1.symm (next _ _ hR1)
set_option maxRecDepth 100000 in
theorem law_20 {v : lV} {j : Nat} {S M : xSt} (hR : Rel S M) (hj : j + 6 ≤ lL v) (hL : lL v ≤ 3072) (next : ∀ S1 M1, Rel S1 M1 → XL v 1241 [] (nI j) S1 M1) : XL v 720 [] (nI j) S M := by
  refine l_aload (x_at tdL_20 0 rfl) rfl rfl ?_
  refine l_arg (k := 1) (x_at tdL_20 1 rfl) (x_at tdL_20 2 rfl) (x_at tdL_20 3 rfl) (x_at tdL_20 4 rfl) (x_at tdL_20 5 rfl) (by decide) (by decide) hj hL ?_
  refine l_arg (k := 2) (x_at tdL_20 6 rfl) (x_at tdL_20 7 rfl) (x_at tdL_20 8 rfl) (x_at tdL_20 9 rfl) (x_at tdL_20 10 rfl) (by decide) (by decide) hj hL ?_
  have h2 := (OKi.to2 (sim_leave (hc := lcH v) (hm := lmH v) (d := 0) (e := 0) hR ((lX v (j + 1))) ((lX v (j + 2)))))
  refine l_callC (as := [.int (lX v (j + 1)), .int (lX v (j + 2))]) (rest := []) mi_X11_leave vc_11 (x_at tdL_20 11 rfl) wm_L_99 rfl (Nat.le_of_ble_eq_true rfl) rfl (by decide) h2 (fun r S1 q => ?_)
  obtain ⟨r, rfl, q⟩ := q
  refine l_aload (x_at tdL_20 12 rfl) rfl rfl ?_
  refine l_arg (k := 1) (x_at tdL_20 13 rfl) (x_at tdL_20 14 rfl) (x_at tdL_20 15 rfl) (x_at tdL_20 16 rfl) (x_at tdL_20 17 rfl) (by decide) (by decide) hj hL ?_
  refine l_arg (k := 2) (x_at tdL_20 18 rfl) (x_at tdL_20 19 rfl) (x_at tdL_20 20 rfl) (x_at tdL_20 21 rfl) (x_at tdL_20 22 rfl) (by decide) (by decide) hj hL ?_
  refine l_callM (as := [.int (lX v (j + 1)), .int (lX v (j + 2))]) (rest := [.int r]) (Kc := kI (fun r2 M1 => r2 = r ∧ Rel S1 M1)) mi_X12_leave vc_12 (x_at tdL_20 23 rfl) wm_L_102 rfl (Nat.le_of_ble_eq_true rfl) rfl (by decide) q (fun r2 M1 q2 => ?_)
  obtain ⟨r2, rfl, e1, hR1⟩ := q2
  exact l_ic_eq 1241 (x_at tdL_20 24 rfl) (by decide) e1.symm (next _ _ hR1)
set_option maxRecDepth 100000 in
theorem law_21 {v : lV} {j : Nat} {S M : xSt} (hR : Rel S M) (hj : j + 6 ≤ lL v) (hL : lL v ≤ 3072) (next : ∀ S1 M1, Rel S1 M1 → XL v 1241 [] (nI j) S1 M1) : XL v 753 [] (nI j) S M := by
  refine l_aload (x_at tdL_21 0 rfl) rfl rfl ?_
  refine l_arg (k := 1) (x_at tdL_21 1 rfl) (x_at tdL_21 2 rfl) (x_at tdL_21 3 rfl) (x_at tdL_21 4 rfl) (x_at tdL_21 5 rfl) (by decide) (by decide) hj hL ?_
  refine l_arg (k := 2) (x_at tdL_21 6 rfl) (x_at tdL_21 7 rfl) (x_at tdL_21 8 rfl) (x_at tdL_21 9 rfl) (x_at tdL_21 10 rfl) (by decide) (by decide) hj hL ?_
  have h2 := (OKi.to2 (sim_asked (hc := lcH v) (hm := lmH v) (d := 0) (e := 0) hR ((lX v (j + 1))) ((lX v (j + 2)))))
  refine l_callC (as := [.int (lX v (j + 1)), .int (lX v (j + 2))]) (rest := []) mi_X11_asked vc_11 (x_at tdL_21 11 rfl) wm_L_103 rfl (Nat.le_of_ble_eq_true rfl) rfl (by decide) h2 (fun r S1 q => ?_)
  obtain ⟨r, rfl, q⟩ := q
  refine l_aload (x_at tdL_21 12 rfl) rfl rfl ?_
  refine l_arg (k := 1) (x_at tdL_21 13 rfl) (x_at tdL_21 14 rfl) (x_at tdL_21 15 rfl) (x_at tdL_21 16 rfl) (x_at tdL_21 17 rfl) (by decide) (by decide) hj hL ?_
  refine l_arg (k := 2) (x_at tdL_21 18 rfl) (x_at tdL_21 19 rfl) (x_at tdL_21 20 rfl) (x_at tdL_21 21 rfl) (x_at tdL_21 22 rfl) (by decide) (by decide) hj hL ?_
  refine l_callM (as := [.int (lX v (j + 1)), .int (lX v (j + 2))]) (rest := [.int r]) (Kc := kI (fun r2 M1 => r2 = r ∧ Rel S1 M1)) mi_X12_asked_ vc_12 (x_at tdL_21 23 rfl) wm_L_106 rfl (Nat.le_of_ble_eq_true rfl) rfl (by decide) q (fun r2 M1 q2 => ?_)
  obtain ⟨r2, rfl, e1, hR1⟩ := q2
  exact l_ic_eq 1241 (x_at tdL_21 24 rfl) (by decide) e1.symm (next _ _ hR1)
set_option maxRecDepth 100000 in
theorem law_22 {v : lV} {j : Nat} {S M : xSt} (hR : Rel S M) (hj : j + 6 ≤ lL v) (hL : lL v ≤ 3072) (next : ∀ S1 M1, Rel S1 M1 → XL v 1241 [] (nI j) S1 M1) : XL v 786 [] (nI j) S M := by
  refine l_aload (x_at tdL_22 0 rfl) rfl rfl ?_
  refine l_arg (k := 1) (x_at tdL_22 1 rfl) (x_at tdL_22 2 rfl) (x_at tdL_22 3 rfl) (x_at tdL_22 4 rfl) (x_at tdL_22 5 rfl) (by decide) (by decide) hj hL ?_
  refine l_arg (k := 2) (x_at tdL_22 6 rfl) (x_at tdL_22 7 rfl) (x_at tdL_22 8 rfl) (x_at tdL_22 9 rfl) (x_at tdL_22 10 rfl) (by decide) (by decide) hj hL ?_
  refine l_arg (k := 3) (x_at tdL_22 11 rfl) (x_at tdL_22 12 rfl) (x_at tdL_22 13 rfl) (x_at tdL_22 14 rfl) (x_at tdL_22 15 rfl) (by decide) (by decide) hj hL ?_
  have h2 := (sim_holds (hc := lcH v) (hm := lmH v) (d := 0) (e := 0) hR ((lX v (j + 1))) ((lX v (j + 2))) ((lX v (j + 3))))
  refine l_callC (as := [.int (lX v (j + 1)), .int (lX v (j + 2)), .int (lX v (j + 3))]) (rest := []) mi_X11_holds vc_11 (x_at tdL_22 16 rfl) wm_L_107 rfl (Nat.le_of_ble_eq_true rfl) rfl (by decide) h2 (fun r S1 q => ?_)
  obtain ⟨r, rfl, q⟩ := q
  refine l_aload (x_at tdL_22 17 rfl) rfl rfl ?_
  refine l_arg (k := 1) (x_at tdL_22 18 rfl) (x_at tdL_22 19 rfl) (x_at tdL_22 20 rfl) (x_at tdL_22 21 rfl) (x_at tdL_22 22 rfl) (by decide) (by decide) hj hL ?_
  refine l_arg (k := 2) (x_at tdL_22 23 rfl) (x_at tdL_22 24 rfl) (x_at tdL_22 25 rfl) (x_at tdL_22 26 rfl) (x_at tdL_22 27 rfl) (by decide) (by decide) hj hL ?_
  refine l_arg (k := 3) (x_at tdL_22 28 rfl) (x_at tdL_22 29 rfl) (x_at tdL_22 30 rfl) (x_at tdL_22 31 rfl) (x_at tdL_22 32 rfl) (by decide) (by decide) hj hL ?_
  refine l_callM (as := [.int (lX v (j + 1)), .int (lX v (j + 2)), .int (lX v (j + 3))]) (rest := [.int r]) (Kc := kI (fun r2 M1 => r2 = r ∧ Rel S1 M1)) mi_X12_holds vc_12 (x_at tdL_22 33 rfl) wm_L_111 rfl (Nat.le_of_ble_eq_true rfl) rfl (by decide) q (fun r2 M1 q2 => ?_)
  obtain ⟨r2, rfl, e1, hR1⟩ := q2
  exact l_ic_eq 1241 (x_at tdL_22 34 rfl) (by decide) e1.symm (next _ _ hR1)
set_option maxRecDepth 100000 in
theorem law_23 {v : lV} {j : Nat} {S M : xSt} (hR : Rel S M) (hj : j + 6 ≤ lL v) (hL : lL v ≤ 3072) (next : ∀ S1 M1, Rel S1 M1 → XL v 1241 [] (nI j) S1 M1) : XL v 829 [] (nI j) S M := by
  refine l_aload (x_at tdL_23 0 rfl) rfl rfl ?_
  refine l_arg (k := 1) (x_at tdL_23 1 rfl) (x_at tdL_23 2 rfl) (x_at tdL_23 3 rfl) (x_at tdL_23 4 rfl) (x_at tdL_23 5 rfl) (by decide) (by decide) hj hL ?_
  refine l_arg (k := 2) (x_at tdL_23 6 rfl) (x_at tdL_23 7 rfl) (x_at tdL_23 8 rfl) (x_at tdL_23 9 rfl) (x_at tdL_23 10 rfl) (by decide) (by decide) hj hL ?_
  refine l_arg (k := 3) (x_at tdL_23 11 rfl) (x_at tdL_23 12 rfl) (x_at tdL_23 13 rfl) (x_at tdL_23 14 rfl) (x_at tdL_23 15 rfl) (by decide) (by decide) hj hL ?_
  have h2 := (sim_odds (hc := lcH v) (hm := lmH v) (d := 0) (e := 0) hR ((lX v (j + 1))) ((lX v (j + 2))) ((lX v (j + 3))))
  refine l_callC (as := [.int (lX v (j + 1)), .int (lX v (j + 2)), .int (lX v (j + 3))]) (rest := []) mi_X11_odds vc_11 (x_at tdL_23 16 rfl) wm_L_112 rfl (Nat.le_of_ble_eq_true rfl) rfl (by decide) h2 (fun r S1 q => ?_)
  obtain ⟨r, rfl, q⟩ := q
  refine l_aload (x_at tdL_23 17 rfl) rfl rfl ?_
  refine l_arg (k := 1) (x_at tdL_23 18 rfl) (x_at tdL_23 19 rfl) (x_at tdL_23 20 rfl) (x_at tdL_23 21 rfl) (x_at tdL_23 22 rfl) (by decide) (by decide) hj hL ?_
  refine l_arg (k := 2) (x_at tdL_23 23 rfl) (x_at tdL_23 24 rfl) (x_at tdL_23 25 rfl) (x_at tdL_23 26 rfl) (x_at tdL_23 27 rfl) (by decide) (by decide) hj hL ?_
  refine l_arg (k := 3) (x_at tdL_23 28 rfl) (x_at tdL_23 29 rfl) (x_at tdL_23 30 rfl) (x_at tdL_23 31 rfl) (x_at tdL_23 32 rfl) (by decide) (by decide) hj hL ?_
  refine l_callM (as := [.int (lX v (j + 1)), .int (lX v (j + 2)), .int (lX v (j + 3))]) (rest := [.long r]) (Kc := kL (fun r2 M1 => r2 = r ∧ Rel S1 M1)) mi_X12_odds vc_12 (x_at tdL_23 33 rfl) wm_L_116 rfl (Nat.le_of_ble_eq_true rfl) rfl (by decide) q (fun r2 M1 q2 => ?_)
  obtain ⟨r2, rfl, e1, hR1⟩ := q2
  exact l_lc_eq 1241 (x_at tdL_23 34 rfl) (x_at tdL_23 35 rfl) (by decide) e1.symm (next _ _ hR1)
set_option maxRecDepth 100000 in
theorem law_24 {v : lV} {j : Nat} {S M : xSt} (hR : Rel S M) (hj : j + 6 ≤ lL v) (hL : lL v ≤ 3072) (next : ∀ S1 M1, Rel S1 M1 → XL v 1241 [] (nI j) S1 M1) : XL v 873 [] (nI j) S M := by
  refine l_aload (x_at tdL_24 0 rfl) rfl rfl ?_
  refine l_arg (k := 1) (x_at tdL_24 1 rfl) (x_at tdL_24 2 rfl) (x_at tdL_24 3 rfl) (x_at tdL_24 4 rfl) (x_at tdL_24 5 rfl) (by decide) (by decide) hj hL ?_
  have h2 := (sim_first (hc := lcH v) (hm := lmH v) (d := 0) (e := 0) hR ((lX v (j + 1))))
  refine l_callC (as := [.int (lX v (j + 1))]) (rest := []) mi_X11_first vc_11 (x_at tdL_24 6 rfl) wm_L_117 rfl (Nat.le_of_ble_eq_true rfl) rfl (by decide) h2 (fun r S1 q => ?_)
  obtain ⟨r, rfl, q⟩ := q
  refine l_aload (x_at tdL_24 7 rfl) rfl rfl ?_
  refine l_arg (k := 1) (x_at tdL_24 8 rfl) (x_at tdL_24 9 rfl) (x_at tdL_24 10 rfl) (x_at tdL_24 11 rfl) (x_at tdL_24 12 rfl) (by decide) (by decide) hj hL ?_
  refine l_callM (as := [.int (lX v (j + 1))]) (rest := [.int r]) (Kc := kI (fun r2 M1 => r2 = r ∧ Rel S1 M1)) mi_X12_first vc_12 (x_at tdL_24 13 rfl) wm_L_120 rfl (Nat.le_of_ble_eq_true rfl) rfl (by decide) q (fun r2 M1 q2 => ?_)
  obtain ⟨r2, rfl, e1, hR1⟩ := q2
  exact l_ic_eq 1241 (x_at tdL_24 14 rfl) (by decide) e1.symm (next _ _ hR1)
set_option maxRecDepth 100000 in
theorem law_25 {v : lV} {j : Nat} {S M : xSt} (hR : Rel S M) (hj : j + 6 ≤ lL v) (hL : lL v ≤ 3072) (next : ∀ S1 M1, Rel S1 M1 → XL v 1241 [] (nI j) S1 M1) : XL v 896 [] (nI j) S M := by
  refine l_aload (x_at tdL_25 0 rfl) rfl rfl ?_
  refine l_arg (k := 1) (x_at tdL_25 1 rfl) (x_at tdL_25 2 rfl) (x_at tdL_25 3 rfl) (x_at tdL_25 4 rfl) (x_at tdL_25 5 rfl) (by decide) (by decide) hj hL ?_
  refine l_arg (k := 2) (x_at tdL_25 6 rfl) (x_at tdL_25 7 rfl) (x_at tdL_25 8 rfl) (x_at tdL_25 9 rfl) (x_at tdL_25 10 rfl) (by decide) (by decide) hj hL ?_
  have h2 := (sim_will (hc := lcH v) (hm := lmH v) (d := 0) (e := 0) hR ((lX v (j + 1))) ((lX v (j + 2))))
  refine l_callC (as := [.int (lX v (j + 1)), .int (lX v (j + 2))]) (rest := []) mi_X11_will vc_11 (x_at tdL_25 11 rfl) wm_L_121 rfl (Nat.le_of_ble_eq_true rfl) rfl (by decide) h2 (fun r S1 q => ?_)
  obtain ⟨r, rfl, q⟩ := q
  refine l_aload (x_at tdL_25 12 rfl) rfl rfl ?_
  refine l_arg (k := 1) (x_at tdL_25 13 rfl) (x_at tdL_25 14 rfl) (x_at tdL_25 15 rfl) (x_at tdL_25 16 rfl) (x_at tdL_25 17 rfl) (by decide) (by decide) hj hL ?_
  refine l_arg (k := 2) (x_at tdL_25 18 rfl) (x_at tdL_25 19 rfl) (x_at tdL_25 20 rfl) (x_at tdL_25 21 rfl) (x_at tdL_25 22 rfl) (by decide) (by decide) hj hL ?_
  refine l_callM (as := [.int (lX v (j + 1)), .int (lX v (j + 2))]) (rest := [.int r]) (Kc := kI (fun r2 M1 => r2 = r ∧ Rel S1 M1)) mi_X12_will vc_12 (x_at tdL_25 23 rfl) wm_L_124 rfl (Nat.le_of_ble_eq_true rfl) rfl (by decide) q (fun r2 M1 q2 => ?_)
  obtain ⟨r2, rfl, e1, hR1⟩ := q2
  exact l_ic_eq 1241 (x_at tdL_25 24 rfl) (by decide) e1.symm (next _ _ hR1)
set_option maxRecDepth 100000 in
theorem law_26 {v : lV} {j : Nat} {S M : xSt} (hR : Rel S M) (hj : j + 6 ≤ lL v) (hL : lL v ≤ 3072) (next : ∀ S1 M1, Rel S1 M1 → XL v 1241 [] (nI j) S1 M1) : XL v 929 [] (nI j) S M := by
  refine l_aload (x_at tdL_26 0 rfl) rfl rfl ?_
  have h2 := (sim_truce (hc := lcH v) (hm := lmH v) (d := 0) (e := 0) hR)
  refine l_callC (as := []) (rest := []) mi_X11_truce vc_11 (x_at tdL_26 1 rfl) wm_L_125 rfl (Nat.le_of_ble_eq_true rfl) rfl (by decide) h2 (fun r S1 q => ?_)
  obtain ⟨r, rfl, q⟩ := q
  refine l_aload (x_at tdL_26 2 rfl) rfl rfl ?_
  refine l_callM (as := []) (rest := [.int r]) (Kc := kI (fun r2 M1 => r2 = r ∧ Rel S1 M1)) mi_X12_truce vc_12 (x_at tdL_26 3 rfl) wm_L_128 rfl (Nat.le_of_ble_eq_true rfl) rfl (by decide) q (fun r2 M1 q2 => ?_)
  obtain ⟨r2, rfl, e1, hR1⟩ := q2
  exact l_ic_eq 1241 (x_at tdL_26 4 rfl) (by decide) e1.symm (next _ _ hR1)
set_option maxRecDepth 100000 in
theorem law_27 {v : lV} {j : Nat} {S M : xSt} (hR : Rel S M) (hj : j + 6 ≤ lL v) (hL : lL v ≤ 3072) (next : ∀ S1 M1, Rel S1 M1 → XL v 1241 [] (nI j) S1 M1) : XL v 942 [] (nI j) S M := by
  refine l_aload (x_at tdL_27 0 rfl) rfl rfl ?_
  have h2 := (sim_calm (hc := lcH v) (hm := lmH v) (d := 0) (e := 0) hR)
  refine l_callC (as := []) (rest := []) mi_X11_calm vc_11 (x_at tdL_27 1 rfl) wm_L_129 rfl (Nat.le_of_ble_eq_true rfl) rfl (by decide) h2 (fun r S1 q => ?_)
  obtain ⟨r, rfl, q⟩ := q
  refine l_aload (x_at tdL_27 2 rfl) rfl rfl ?_
  refine l_callM (as := []) (rest := [.int r]) (Kc := kI (fun r2 M1 => r2 = r ∧ Rel S1 M1)) mi_X12_calm vc_12 (x_at tdL_27 3 rfl) wm_L_132 rfl (Nat.le_of_ble_eq_true rfl) rfl (by decide) q (fun r2 M1 q2 => ?_)
  obtain ⟨r2, rfl, e1, hR1⟩ := q2
  exact l_ic_eq 1241 (x_at tdL_27 4 rfl) (by decide) e1.symm (next _ _ hR1)
set_option maxRecDepth 100000 in
theorem law_28 {v : lV} {j : Nat} {S M : xSt} (hR : Rel S M) (hj : j + 6 ≤ lL v) (hL : lL v ≤ 3072) (next : ∀ S1 M1, Rel S1 M1 → XL v 1241 [] (nI j) S1 M1) : XL v 955 [] (nI j) S M := by
  refine l_aload (x_at tdL_28 0 rfl) rfl rfl ?_
  refine l_arg (k := 1) (x_at tdL_28 1 rfl) (x_at tdL_28 2 rfl) (x_at tdL_28 3 rfl) (x_at tdL_28 4 rfl) (x_at tdL_28 5 rfl) (by decide) (by decide) hj hL ?_
  refine l_arg (k := 2) (x_at tdL_28 6 rfl) (x_at tdL_28 7 rfl) (x_at tdL_28 8 rfl) (x_at tdL_28 9 rfl) (x_at tdL_28 10 rfl) (by decide) (by decide) hj hL ?_
  have h2 := (OKi.to2 (sim_likes (hc := lcH v) (hm := lmH v) (d := 0) (e := 0) hR ((lX v (j + 1))) ((lX v (j + 2)))))
  refine l_callC (as := [.int (lX v (j + 1)), .int (lX v (j + 2))]) (rest := []) mi_X11_likes vc_11 (x_at tdL_28 11 rfl) wm_L_133 rfl (Nat.le_of_ble_eq_true rfl) rfl (by decide) h2 (fun r S1 q => ?_)
  obtain ⟨r, rfl, q⟩ := q
  refine l_aload (x_at tdL_28 12 rfl) rfl rfl ?_
  refine l_arg (k := 1) (x_at tdL_28 13 rfl) (x_at tdL_28 14 rfl) (x_at tdL_28 15 rfl) (x_at tdL_28 16 rfl) (x_at tdL_28 17 rfl) (by decide) (by decide) hj hL ?_
  refine l_arg (k := 2) (x_at tdL_28 18 rfl) (x_at tdL_28 19 rfl) (x_at tdL_28 20 rfl) (x_at tdL_28 21 rfl) (x_at tdL_28 22 rfl) (by decide) (by decide) hj hL ?_
  refine l_callM (as := [.int (lX v (j + 1)), .int (lX v (j + 2))]) (rest := [.int r]) (Kc := kI (fun r2 M1 => r2 = r ∧ Rel S1 M1)) mi_X12_likes vc_12 (x_at tdL_28 23 rfl) wm_L_136 rfl (Nat.le_of_ble_eq_true rfl) rfl (by decide) q (fun r2 M1 q2 => ?_)
  obtain ⟨r2, rfl, e1, hR1⟩ := q2
  exact l_ic_eq 1241 (x_at tdL_28 24 rfl) (by decide) e1.symm (next _ _ hR1)
set_option maxRecDepth 100000 in
theorem law_29 {v : lV} {j : Nat} {S M : xSt} (hR : Rel S M) (hj : j + 6 ≤ lL v) (hL : lL v ≤ 3072) (next : ∀ S1 M1, Rel S1 M1 → XL v 1241 [] (nI j) S1 M1) : XL v 988 [] (nI j) S M := by
  refine l_aload (x_at tdL_29 0 rfl) rfl rfl ?_
  refine l_arg (k := 1) (x_at tdL_29 1 rfl) (x_at tdL_29 2 rfl) (x_at tdL_29 3 rfl) (x_at tdL_29 4 rfl) (x_at tdL_29 5 rfl) (by decide) (by decide) hj hL ?_
  have h2 := (OKi.to2 (sim_lies (hc := lcH v) (hm := lmH v) (d := 0) (e := 0) hR ((lX v (j + 1)))))
  refine l_callC (as := [.int (lX v (j + 1))]) (rest := []) mi_X11_lies vc_11 (x_at tdL_29 6 rfl) wm_L_137 rfl (Nat.le_of_ble_eq_true rfl) rfl (by decide) h2 (fun r S1 q => ?_)
  obtain ⟨r, rfl, q⟩ := q
  refine l_aload (x_at tdL_29 7 rfl) rfl rfl ?_
  refine l_arg (k := 1) (x_at tdL_29 8 rfl) (x_at tdL_29 9 rfl) (x_at tdL_29 10 rfl) (x_at tdL_29 11 rfl) (x_at tdL_29 12 rfl) (by decide) (by decide) hj hL ?_
  refine l_callM (as := [.int (lX v (j + 1))]) (rest := [.int r]) (Kc := kI (fun r2 M1 => r2 = r ∧ Rel S1 M1)) mi_X12_lies vc_12 (x_at tdL_29 13 rfl) wm_L_140 rfl (Nat.le_of_ble_eq_true rfl) rfl (by decide) q (fun r2 M1 q2 => ?_)
  obtain ⟨r2, rfl, e1, hR1⟩ := q2
  exact l_ic_eq 1241 (x_at tdL_29 14 rfl) (by decide) e1.symm (next _ _ hR1)
set_option maxRecDepth 100000 in
theorem law_30 {v : lV} {j : Nat} {S M : xSt} (hR : Rel S M) (hj : j + 6 ≤ lL v) (hL : lL v ≤ 3072) (next : ∀ S1 M1, Rel S1 M1 → XL v 1241 [] (nI j) S1 M1) : XL v 1011 [] (nI j) S M := by
  refine l_aload (x_at tdL_30 0 rfl) rfl rfl ?_
  refine l_arg (k := 1) (x_at tdL_30 1 rfl) (x_at tdL_30 2 rfl) (x_at tdL_30 3 rfl) (x_at tdL_30 4 rfl) (x_at tdL_30 5 rfl) (by decide) (by decide) hj hL ?_
  refine l_arg (k := 2) (x_at tdL_30 6 rfl) (x_at tdL_30 7 rfl) (x_at tdL_30 8 rfl) (x_at tdL_30 9 rfl) (x_at tdL_30 10 rfl) (by decide) (by decide) hj hL ?_
  refine l_arg (k := 3) (x_at tdL_30 11 rfl) (x_at tdL_30 12 rfl) (x_at tdL_30 13 rfl) (x_at tdL_30 14 rfl) (x_at tdL_30 15 rfl) (by decide) (by decide) hj hL ?_
  by_cases c0 : lX v (j + 3) = 0
  · refine l_if_eq 1034 (x_at tdL_30 16 rfl) (by decide) (fun _ => ?_) (fun z => absurd c0 z)
    refine l_iconst (x_at tdL_30 19 rfl) (x := 0) (by decide) ?_
    have h2 := (OKi.to2 (sim_tug (hc := lcH v) (hm := lmH v) (d := 0) (e := 0) hR ((lX v (j + 1))) ((lX v (j + 2))) 0 (Or.inl rfl)))
    refine l_callC (as := [.int (lX v (j + 1)), .int (lX v (j + 2)), .int 0]) (rest := []) mi_X11_tug vc_11 (x_at tdL_30 20 rfl) wm_L_141 rfl (Nat.le_of_ble_eq_true rfl) rfl (by decide) h2 (fun r S1 q => ?_)
    obtain ⟨r, rfl, q⟩ := q
    refine l_aload (x_at tdL_30 21 rfl) rfl rfl ?_
    refine l_arg (k := 1) (x_at tdL_30 22 rfl) (x_at tdL_30 23 rfl) (x_at tdL_30 24 rfl) (x_at tdL_30 25 rfl) (x_at tdL_30 26 rfl) (by decide) (by decide) hj hL ?_
    refine l_arg (k := 2) (x_at tdL_30 27 rfl) (x_at tdL_30 28 rfl) (x_at tdL_30 29 rfl) (x_at tdL_30 30 rfl) (x_at tdL_30 31 rfl) (by decide) (by decide) hj hL ?_
    refine l_arg (k := 3) (x_at tdL_30 32 rfl) (x_at tdL_30 33 rfl) (x_at tdL_30 34 rfl) (x_at tdL_30 35 rfl) (x_at tdL_30 36 rfl) (by decide) (by decide) hj hL ?_
    refine l_if_eq 1061 (x_at tdL_30 37 rfl) (by decide) (fun _ => ?_) (fun z => absurd c0 z)
    refine l_iconst (x_at tdL_30 40 rfl) (x := 0) (by decide) ?_
    refine l_callM (as := [.int (lX v (j + 1)), .int (lX v (j + 2)), .int 0]) (rest := [.int r]) (Kc := kI (fun r2 M1 => r2 = r ∧ Rel S1 M1)) mi_X12_tug vc_12 (x_at tdL_30 41 rfl) wm_L_145 rfl (Nat.le_of_ble_eq_true rfl) rfl (by decide) q (fun r2 M1 q2 => ?_)
    obtain ⟨r2, rfl, e1, hR1⟩ := q2
    exact l_ic_eq 1241 (x_at tdL_30 42 rfl) (by decide) e1.symm (next _ _ hR1)
  · refine l_if_eq 1034 (x_at tdL_30 16 rfl) (by decide) (fun z => absurd z c0) (fun _ => ?_)
    refine l_iconst (x_at tdL_30 17 rfl) (x := 1) (by decide) ?_
    refine l_goto 1035 (x_at tdL_30 18 rfl) (by decide) ?_
    have h2 := (OKi.to2 (sim_tug (hc := lcH v) (hm := lmH v) (d := 0) (e := 0) hR ((lX v (j + 1))) ((lX v (j + 2))) 1 (Or.inr rfl)))
    refine l_callC (as := [.int (lX v (j + 1)), .int (lX v (j + 2)), .int 1]) (rest := []) mi_X11_tug vc_11 (x_at tdL_30 20 rfl) wm_L_141 rfl (Nat.le_of_ble_eq_true rfl) rfl (by decide) h2 (fun r S1 q => ?_)
    obtain ⟨r, rfl, q⟩ := q
    refine l_aload (x_at tdL_30 21 rfl) rfl rfl ?_
    refine l_arg (k := 1) (x_at tdL_30 22 rfl) (x_at tdL_30 23 rfl) (x_at tdL_30 24 rfl) (x_at tdL_30 25 rfl) (x_at tdL_30 26 rfl) (by decide) (by decide) hj hL ?_
    refine l_arg (k := 2) (x_at tdL_30 27 rfl) (x_at tdL_30 28 rfl) (x_at tdL_30 29 rfl) (x_at tdL_30 30 rfl) (x_at tdL_30 31 rfl) (by decide) (by decide) hj hL ?_
    refine l_arg (k := 3) (x_at tdL_30 32 rfl) (x_at tdL_30 33 rfl) (x_at tdL_30 34 rfl) (x_at tdL_30 35 rfl) (x_at tdL_30 36 rfl) (by decide) (by decide) hj hL ?_
    refine l_if_eq 1061 (x_at tdL_30 37 rfl) (by decide) (fun z => absurd z c0) (fun _ => ?_)
    refine l_iconst (x_at tdL_30 38 rfl) (x := 1) (by decide) ?_
    refine l_goto 1062 (x_at tdL_30 39 rfl) (by decide) ?_
    refine l_callM (as := [.int (lX v (j + 1)), .int (lX v (j + 2)), .int 1]) (rest := [.int r]) (Kc := kI (fun r2 M1 => r2 = r ∧ Rel S1 M1)) mi_X12_tug vc_12 (x_at tdL_30 41 rfl) wm_L_145 rfl (Nat.le_of_ble_eq_true rfl) rfl (by decide) q (fun r2 M1 q2 => ?_)
    obtain ⟨r2, rfl, e1, hR1⟩ := q2
    exact l_ic_eq 1241 (x_at tdL_30 42 rfl) (by decide) e1.symm (next _ _ hR1)
set_option maxRecDepth 100000 in
theorem law_31 {v : lV} {j : Nat} {S M : xSt} (hR : Rel S M) (hj : j + 6 ≤ lL v) (hL : lL v ≤ 3072) (next : ∀ S1 M1, Rel S1 M1 → XL v 1241 [] (nI j) S1 M1) : XL v 1070 [] (nI j) S M := by
  refine l_aload (x_at tdL_31 0 rfl) rfl rfl ?_
  refine l_arg (k := 1) (x_at tdL_31 1 rfl) (x_at tdL_31 2 rfl) (x_at tdL_31 3 rfl) (x_at tdL_31 4 rfl) (x_at tdL_31 5 rfl) (by decide) (by decide) hj hL ?_
  have h2 := (OKi.to2 (sim_untell (hc := lcH v) (hm := lmH v) (d := 0) (e := 0) hR ((lX v (j + 1)))))
  refine l_callC (as := [.int (lX v (j + 1))]) (rest := []) mi_X11_untell vc_11 (x_at tdL_31 6 rfl) wm_L_146 rfl (Nat.le_of_ble_eq_true rfl) rfl (by decide) h2 (fun r S1 q => ?_)
  obtain ⟨r, rfl, q⟩ := q
  refine l_aload (x_at tdL_31 7 rfl) rfl rfl ?_
  refine l_arg (k := 1) (x_at tdL_31 8 rfl) (x_at tdL_31 9 rfl) (x_at tdL_31 10 rfl) (x_at tdL_31 11 rfl) (x_at tdL_31 12 rfl) (by decide) (by decide) hj hL ?_
  refine l_callM (as := [.int (lX v (j + 1))]) (rest := [.int r]) (Kc := kI (fun r2 M1 => r2 = r ∧ Rel S1 M1)) mi_X12_untell vc_12 (x_at tdL_31 13 rfl) wm_L_149 rfl (Nat.le_of_ble_eq_true rfl) rfl (by decide) q (fun r2 M1 q2 => ?_)
  obtain ⟨r2, rfl, e1, hR1⟩ := q2
  exact l_ic_eq 1241 (x_at tdL_31 14 rfl) (by decide) e1.symm (next _ _ hR1)
set_option maxRecDepth 100000 in
theorem law_32 {v : lV} {j : Nat} {S M : xSt} (hR : Rel S M) (hj : j + 6 ≤ lL v) (hL : lL v ≤ 3072) (next : ∀ S1 M1, Rel S1 M1 → XL v 1241 [] (nI j) S1 M1) : XL v 1093 [] (nI j) S M := by
  refine l_aload (x_at tdL_32 0 rfl) rfl rfl ?_
  refine l_arg (k := 1) (x_at tdL_32 1 rfl) (x_at tdL_32 2 rfl) (x_at tdL_32 3 rfl) (x_at tdL_32 4 rfl) (x_at tdL_32 5 rfl) (by decide) (by decide) hj hL ?_
  have h2 := (OKi.to2 (sim_later (hc := lcH v) (hm := lmH v) (d := 0) (e := 0) hR ((lX v (j + 1)))))
  refine l_callC (as := [.int (lX v (j + 1))]) (rest := []) mi_X11_later vc_11 (x_at tdL_32 6 rfl) wm_L_150 rfl (Nat.le_of_ble_eq_true rfl) rfl (by decide) h2 (fun r S1 q => ?_)
  obtain ⟨r, rfl, q⟩ := q
  refine l_aload (x_at tdL_32 7 rfl) rfl rfl ?_
  refine l_arg (k := 1) (x_at tdL_32 8 rfl) (x_at tdL_32 9 rfl) (x_at tdL_32 10 rfl) (x_at tdL_32 11 rfl) (x_at tdL_32 12 rfl) (by decide) (by decide) hj hL ?_
  refine l_callM (as := [.int (lX v (j + 1))]) (rest := [.int r]) (Kc := kI (fun r2 M1 => r2 = r ∧ Rel S1 M1)) mi_X12_later vc_12 (x_at tdL_32 13 rfl) wm_L_153 rfl (Nat.le_of_ble_eq_true rfl) rfl (by decide) q (fun r2 M1 q2 => ?_)
  obtain ⟨r2, rfl, e1, hR1⟩ := q2
  exact l_ic_eq 1241 (x_at tdL_32 14 rfl) (by decide) e1.symm (next _ _ hR1)
set_option maxRecDepth 100000 in
theorem law_33 {v : lV} {j : Nat} {S M : xSt} (hR : Rel S M) (hj : j + 6 ≤ lL v) (hL : lL v ≤ 3072) (next : ∀ S1 M1, Rel S1 M1 → XL v 1241 [] (nI j) S1 M1) : XL v 1116 [] (nI j) S M := by
  refine l_aload (x_at tdL_33 0 rfl) rfl rfl ?_
  refine l_arg (k := 1) (x_at tdL_33 1 rfl) (x_at tdL_33 2 rfl) (x_at tdL_33 3 rfl) (x_at tdL_33 4 rfl) (x_at tdL_33 5 rfl) (by decide) (by decide) hj hL ?_
  have h2 := (OKi.to2 (sim_swore (hc := lcH v) (hm := lmH v) (d := 0) (e := 0) hR ((lX v (j + 1)))))
  refine l_callC (as := [.int (lX v (j + 1))]) (rest := []) mi_X11_swore vc_11 (x_at tdL_33 6 rfl) wm_L_154 rfl (Nat.le_of_ble_eq_true rfl) rfl (by decide) h2 (fun r S1 q => ?_)
  obtain ⟨r, rfl, q⟩ := q
  refine l_aload (x_at tdL_33 7 rfl) rfl rfl ?_
  refine l_arg (k := 1) (x_at tdL_33 8 rfl) (x_at tdL_33 9 rfl) (x_at tdL_33 10 rfl) (x_at tdL_33 11 rfl) (x_at tdL_33 12 rfl) (by decide) (by decide) hj hL ?_
  refine l_callM (as := [.int (lX v (j + 1))]) (rest := [.int r]) (Kc := kI (fun r2 M1 => r2 = r ∧ Rel S1 M1)) mi_X12_swore vc_12 (x_at tdL_33 13 rfl) wm_L_157 rfl (Nat.le_of_ble_eq_true rfl) rfl (by decide) q (fun r2 M1 q2 => ?_)
  obtain ⟨r2, rfl, e1, hR1⟩ := q2
  exact l_ic_eq 1241 (x_at tdL_33 14 rfl) (by decide) e1.symm (next _ _ hR1)
set_option maxRecDepth 100000 in
theorem law_34 {v : lV} {j : Nat} {S M : xSt} (hR : Rel S M) (hj : j + 6 ≤ lL v) (hL : lL v ≤ 3072) (next : ∀ S1 M1, Rel S1 M1 → XL v 1241 [] (nI j) S1 M1) : XL v 1139 [] (nI j) S M := by
  refine l_aload (x_at tdL_34 0 rfl) rfl rfl ?_
  refine l_arg (k := 1) (x_at tdL_34 1 rfl) (x_at tdL_34 2 rfl) (x_at tdL_34 3 rfl) (x_at tdL_34 4 rfl) (x_at tdL_34 5 rfl) (by decide) (by decide) hj hL ?_
  refine l_arg (k := 2) (x_at tdL_34 6 rfl) (x_at tdL_34 7 rfl) (x_at tdL_34 8 rfl) (x_at tdL_34 9 rfl) (x_at tdL_34 10 rfl) (by decide) (by decide) hj hL ?_
  have h2 := (OKi.to2 (sim_ask (hc := lcH v) (hm := lmH v) (d := 0) (e := 0) hR ((lX v (j + 1))) ((lX v (j + 2)))))
  refine l_callC (as := [.int (lX v (j + 1)), .int (lX v (j + 2))]) (rest := []) mi_X11_ask vc_11 (x_at tdL_34 11 rfl) wm_L_158 rfl (Nat.le_of_ble_eq_true rfl) rfl (by decide) h2 (fun r S1 q => ?_)
  obtain ⟨r, rfl, q⟩ := q
  refine l_aload (x_at tdL_34 12 rfl) rfl rfl ?_
  refine l_arg (k := 1) (x_at tdL_34 13 rfl) (x_at tdL_34 14 rfl) (x_at tdL_34 15 rfl) (x_at tdL_34 16 rfl) (x_at tdL_34 17 rfl) (by decide) (by decide) hj hL ?_
  refine l_arg (k := 2) (x_at tdL_34 18 rfl) (x_at tdL_34 19 rfl) (x_at tdL_34 20 rfl) (x_at tdL_34 21 rfl) (x_at tdL_34 22 rfl) (by decide) (by decide) hj hL ?_
  refine l_callM (as := [.int (lX v (j + 1)), .int (lX v (j + 2))]) (rest := [.int r]) (Kc := kI (fun r2 M1 => r2 = r ∧ Rel S1 M1)) mi_X12_ask vc_12 (x_at tdL_34 23 rfl) wm_L_161 rfl (Nat.le_of_ble_eq_true rfl) rfl (by decide) q (fun r2 M1 q2 => ?_)
  obtain ⟨r2, rfl, e1, hR1⟩ := q2
  exact l_ic_eq 1241 (x_at tdL_34 24 rfl) (by decide) e1.symm (next _ _ hR1)
set_option maxRecDepth 100000 in
theorem law_35 {v : lV} {j : Nat} {S M : xSt} (hR : Rel S M) (hj : j + 6 ≤ lL v) (hL : lL v ≤ 3072) (next : ∀ S1 M1, Rel S1 M1 → XL v 1241 [] (nI j) S1 M1) : XL v 1172 [] (nI j) S M := by
  refine l_aload (x_at tdL_35 0 rfl) rfl rfl ?_
  refine l_arg (k := 1) (x_at tdL_35 1 rfl) (x_at tdL_35 2 rfl) (x_at tdL_35 3 rfl) (x_at tdL_35 4 rfl) (x_at tdL_35 5 rfl) (by decide) (by decide) hj hL ?_
  have h2 := (OKi.to2 (sim_image (hc := lcH v) (hm := lmH v) (d := 0) (e := 0) hR ((lX v (j + 1)))))
  refine l_callC (as := [.int (lX v (j + 1))]) (rest := []) mi_X11_image vc_11 (x_at tdL_35 6 rfl) wm_L_162 rfl (Nat.le_of_ble_eq_true rfl) rfl (by decide) h2 (fun r S1 q => ?_)
  obtain ⟨r, rfl, q⟩ := q
  refine l_aload (x_at tdL_35 7 rfl) rfl rfl ?_
  refine l_arg (k := 1) (x_at tdL_35 8 rfl) (x_at tdL_35 9 rfl) (x_at tdL_35 10 rfl) (x_at tdL_35 11 rfl) (x_at tdL_35 12 rfl) (by decide) (by decide) hj hL ?_
  refine l_callM (as := [.int (lX v (j + 1))]) (rest := [.int r]) (Kc := kI (fun r2 M1 => r2 = r ∧ Rel S1 M1)) mi_X12_image vc_12 (x_at tdL_35 13 rfl) wm_L_165 rfl (Nat.le_of_ble_eq_true rfl) rfl (by decide) q (fun r2 M1 q2 => ?_)
  obtain ⟨r2, rfl, e1, hR1⟩ := q2
  exact l_ic_eq 1241 (x_at tdL_35 14 rfl) (by decide) e1.symm (next _ _ hR1)
set_option maxRecDepth 100000 in
theorem law_36 {v : lV} {j : Nat} {S M : xSt} (hR : Rel S M) (hj : j + 6 ≤ lL v) (hL : lL v ≤ 3072) (next : ∀ S1 M1, Rel S1 M1 → XL v 1241 [] (nI j) S1 M1) : XL v 1195 [] (nI j) S M := by
  refine l_aload (x_at tdL_36 0 rfl) rfl rfl ?_
  refine l_arg (k := 1) (x_at tdL_36 1 rfl) (x_at tdL_36 2 rfl) (x_at tdL_36 3 rfl) (x_at tdL_36 4 rfl) (x_at tdL_36 5 rfl) (by decide) (by decide) hj hL ?_
  have h2 := (OKi.to2 (sim_back (hc := lcH v) (hm := lmH v) (d := 0) (e := 0) hR ((lX v (j + 1)))))
  refine l_callC (as := [.int (lX v (j + 1))]) (rest := []) mi_X11_back vc_11 (x_at tdL_36 6 rfl) wm_L_166 rfl (Nat.le_of_ble_eq_true rfl) rfl (by decide) h2 (fun r S1 q => ?_)
  obtain ⟨r, rfl, q⟩ := q
  refine l_aload (x_at tdL_36 7 rfl) rfl rfl ?_
  refine l_arg (k := 1) (x_at tdL_36 8 rfl) (x_at tdL_36 9 rfl) (x_at tdL_36 10 rfl) (x_at tdL_36 11 rfl) (x_at tdL_36 12 rfl) (by decide) (by decide) hj hL ?_
  refine l_callM (as := [.int (lX v (j + 1))]) (rest := [.int r]) (Kc := kI (fun r2 M1 => r2 = r ∧ Rel S1 M1)) mi_X12_back vc_12 (x_at tdL_36 13 rfl) wm_L_169 rfl (Nat.le_of_ble_eq_true rfl) rfl (by decide) q (fun r2 M1 q2 => ?_)
  obtain ⟨r2, rfl, e1, hR1⟩ := q2
  exact l_ic_eq 1241 (x_at tdL_36 14 rfl) (by decide) e1.symm (next _ _ hR1)
set_option maxRecDepth 100000 in
theorem law_37 {v : lV} {j : Nat} {S M : xSt} (hR : Rel S M) (hj : j + 6 ≤ lL v) (hL : lL v ≤ 3072) (next : ∀ S1 M1, Rel S1 M1 → XL v 1241 [] (nI j) S1 M1) : XL v 1218 [] (nI j) S M := by
  refine l_aload (x_at tdL_37 0 rfl) rfl rfl ?_
  refine l_arg (k := 1) (x_at tdL_37 1 rfl) (x_at tdL_37 2 rfl) (x_at tdL_37 3 rfl) (x_at tdL_37 4 rfl) (x_at tdL_37 5 rfl) (by decide) (by decide) hj hL ?_
  have h2 := (OKi.to2 (sim_about (hc := lcH v) (hm := lmH v) (d := 0) (e := 0) hR ((lX v (j + 1)))))
  refine l_callC (as := [.int (lX v (j + 1))]) (rest := []) mi_X11_about vc_11 (x_at tdL_37 6 rfl) wm_L_170 rfl (Nat.le_of_ble_eq_true rfl) rfl (by decide) h2 (fun r S1 q => ?_)
  obtain ⟨r, rfl, q⟩ := q
  refine l_aload (x_at tdL_37 7 rfl) rfl rfl ?_
  refine l_arg (k := 1) (x_at tdL_37 8 rfl) (x_at tdL_37 9 rfl) (x_at tdL_37 10 rfl) (x_at tdL_37 11 rfl) (x_at tdL_37 12 rfl) (by decide) (by decide) hj hL ?_
  refine l_callM (as := [.int (lX v (j + 1))]) (rest := [.int r]) (Kc := kI (fun r2 M1 => r2 = r ∧ Rel S1 M1)) mi_X12_about vc_12 (x_at tdL_37 13 rfl) wm_L_173 rfl (Nat.le_of_ble_eq_true rfl) rfl (by decide) q (fun r2 M1 q2 => ?_)
  obtain ⟨r2, rfl, e1, hR1⟩ := q2
  exact l_ic_eq 1241 (x_at tdL_37 14 rfl) (by decide) e1.symm (next _ _ hR1)
set_option maxRecDepth 100000 in
theorem law_step {v : lV} {j : Nat} {S M : xSt} (hR : Rel S M) (hL : lL v ≤ 3072) (hj : j ≤ lL v) (next : ∀ S1 M1, j + 6 ≤ lL v → Rel S1 M1 → XL v 18 [] (nI (j + 6)) S1 M1) : XL v 18 [] (nI j) S M := by
  refine l_iload (x_at tdL_h 0 rfl) ?_
  refine l_aload (x_at tdL_h 1 rfl) rfl rfl ?_
  refine l_len (x_at tdL_h 2 rfl) ?_
  refine l_bipush (x := 6) (x_at tdL_h 3 rfl) (by decide) ?_
  refine l_isub (x_at tdL_h 4 rfl) ?_
  refine l_ic_gt 1247 (x_at tdL_h 5 rfl) (by decide) (fun _ => l_end (x_at tdL_e 2 rfl) (x_at tdL_e 3 rfl)) (fun c => ?_)
  have hj6 : j + 6 ≤ lL v := by
    rcases Nat.lt_or_ge (lL v) (j + 6) with q | q
    · refine absurd ?_ c
      rw [Int32.lt_iff_toInt_lt, nI_toInt (by omega)]
      rcases Nat.lt_or_ge (lL v) 6 with q6 | q6
      · have e1 : ∀ n, n < 6 → (nI n - 6 : Int32).toInt < 0 := by decide +kernel
        have := e1 (lL v) q6
        omega
      · have e2 : nI (lL v) - 6 = nI (lL v - 6) := by
          have e3 : nI (lL v) = nI (lL v - 6) + nI 6 := by rw [nI_addI]; congr 1; omega
          rw [e3]
          show nI (lL v - 6) + 6 - 6 = _
          exact Int32.add_sub_cancel _ _
        rw [e2, nI_toInt (by omega)]
        omega
    · exact q
  refine l_aload (x_at tdL_h 6 rfl) rfl rfl ?_
  refine l_iload (x_at tdL_h 7 rfl) ?_
  refine l_ld (j := j) rfl (by omega) (by omega) (x_at tdL_h 8 rfl) ?_
  refine l_bipush (x := 63) (x_at tdL_h 9 rfl) (by decide) ?_
  refine l_iand (x_at tdL_h 10 rfl) ?_
  have nx : ∀ S1 M1, Rel S1 M1 → XL v 1241 [] (nI j) S1 M1 := fun S1 M1 h1 => l_next (x_at tdL_e 0 rfl) (x_at tdL_e 1 rfl) (by decide) (next S1 M1 hj6 h1)
  obtain ⟨t, ht, et⟩ : ∃ t : Nat, t < 64 ∧ lX v j &&& 63 = nI t := pk_andE (lX v j) (m := 63) 6 (by decide)
  rcases Nat.lt_or_ge t 38 with q | q
  · match t, q with
    | 0, _ => exact l_tab 200 (x_at tdL_h 11 rfl) et (by decide) (by decide) rfl (by decide) (law_0 hR hj6 hL nx)
    | 1, _ => exact l_tab 263 (x_at tdL_h 11 rfl) et (by decide) (by decide) rfl (by decide) (law_1 hR hj6 hL nx)
    | 2, _ => exact l_tab 286 (x_at tdL_h 11 rfl) et (by decide) (by decide) rfl (by decide) (law_2 hR hj6 hL nx)
    | 3, _ => exact l_tab 299 (x_at tdL_h 11 rfl) et (by decide) (by decide) rfl (by decide) (law_3 hR hj6 hL nx)
    | 4, _ => exact l_tab 322 (x_at tdL_h 11 rfl) et (by decide) (by decide) rfl (by decide) (law_4 hR hj6 hL nx)
    | 5, _ => exact l_tab 355 (x_at tdL_h 11 rfl) et (by decide) (by decide) rfl (by decide) (law_5 hR hj6 hL nx)
    | 6, _ => exact l_tab 388 (x_at tdL_h 11 rfl) et (by decide) (by decide) rfl (by decide) (law_6 hR hj6 hL nx)
    | 7, _ => exact l_tab 401 (x_at tdL_h 11 rfl) et (by decide) (by decide) rfl (by decide) (law_7 hR hj6 hL nx)
    | 8, _ => exact l_tab 434 (x_at tdL_h 11 rfl) et (by decide) (by decide) rfl (by decide) (law_8 hR hj6 hL nx)
    | 9, _ => exact l_tab 457 (x_at tdL_h 11 rfl) et (by decide) (by decide) rfl (by decide) (law_9 hR hj6 hL nx)
    | 10, _ => exact l_tab 490 (x_at tdL_h 11 rfl) et (by decide) (by decide) rfl (by decide) (law_10 hR hj6 hL nx)
    | 11, _ => exact l_tab 513 (x_at tdL_h 11 rfl) et (by decide) (by decide) rfl (by decide) (law_11 hR hj6 hL nx)
    | 12, _ => exact l_tab 536 (x_at tdL_h 11 rfl) et (by decide) (by decide) rfl (by decide) (law_12 hR hj6 hL nx)
    | 13, _ => exact l_tab 559 (x_at tdL_h 11 rfl) et (by decide) (by decide) rfl (by decide) (law_13 hR hj6 hL nx)
    | 14, _ => exact l_tab 572 (x_at tdL_h 11 rfl) et (by decide) (by decide) rfl (by decide) (law_14 hR hj6 hL nx)
    | 15, _ => exact l_tab 585 (x_at tdL_h 11 rfl) et (by decide) (by decide) rfl (by decide) (law_15 hR hj6 hL nx)
    | 16, _ => exact l_tab 598 (x_at tdL_h 11 rfl) et (by decide) (by decide) rfl (by decide) (law_16 hR hj6 hL nx)
    | 17, _ => exact l_tab 631 (x_at tdL_h 11 rfl) et (by decide) (by decide) rfl (by decide) (law_17 hR hj6 hL nx)
    | 18, _ => exact l_tab 654 (x_at tdL_h 11 rfl) et (by decide) (by decide) rfl (by decide) (law_18 hR hj6 hL nx)
    | 19, _ => exact l_tab 687 (x_at tdL_h 11 rfl) et (by decide) (by decide) rfl (by decide) (law_19 hR hj6 hL nx)
    | 20, _ => exact l_tab 720 (x_at tdL_h 11 rfl) et (by decide) (by decide) rfl (by decide) (law_20 hR hj6 hL nx)
    | 21, _ => exact l_tab 753 (x_at tdL_h 11 rfl) et (by decide) (by decide) rfl (by decide) (law_21 hR hj6 hL nx)
    | 22, _ => exact l_tab 786 (x_at tdL_h 11 rfl) et (by decide) (by decide) rfl (by decide) (law_22 hR hj6 hL nx)
    | 23, _ => exact l_tab 829 (x_at tdL_h 11 rfl) et (by decide) (by decide) rfl (by decide) (law_23 hR hj6 hL nx)
    | 24, _ => exact l_tab 873 (x_at tdL_h 11 rfl) et (by decide) (by decide) rfl (by decide) (law_24 hR hj6 hL nx)
    | 25, _ => exact l_tab 896 (x_at tdL_h 11 rfl) et (by decide) (by decide) rfl (by decide) (law_25 hR hj6 hL nx)
    | 26, _ => exact l_tab 929 (x_at tdL_h 11 rfl) et (by decide) (by decide) rfl (by decide) (law_26 hR hj6 hL nx)
    | 27, _ => exact l_tab 942 (x_at tdL_h 11 rfl) et (by decide) (by decide) rfl (by decide) (law_27 hR hj6 hL nx)
    | 28, _ => exact l_tab 955 (x_at tdL_h 11 rfl) et (by decide) (by decide) rfl (by decide) (law_28 hR hj6 hL nx)
    | 29, _ => exact l_tab 988 (x_at tdL_h 11 rfl) et (by decide) (by decide) rfl (by decide) (law_29 hR hj6 hL nx)
    | 30, _ => exact l_tab 1011 (x_at tdL_h 11 rfl) et (by decide) (by decide) rfl (by decide) (law_30 hR hj6 hL nx)
    | 31, _ => exact l_tab 1070 (x_at tdL_h 11 rfl) et (by decide) (by decide) rfl (by decide) (law_31 hR hj6 hL nx)
    | 32, _ => exact l_tab 1093 (x_at tdL_h 11 rfl) et (by decide) (by decide) rfl (by decide) (law_32 hR hj6 hL nx)
    | 33, _ => exact l_tab 1116 (x_at tdL_h 11 rfl) et (by decide) (by decide) rfl (by decide) (law_33 hR hj6 hL nx)
    | 34, _ => exact l_tab 1139 (x_at tdL_h 11 rfl) et (by decide) (by decide) rfl (by decide) (law_34 hR hj6 hL nx)
    | 35, _ => exact l_tab 1172 (x_at tdL_h 11 rfl) et (by decide) (by decide) rfl (by decide) (law_35 hR hj6 hL nx)
    | 36, _ => exact l_tab 1195 (x_at tdL_h 11 rfl) et (by decide) (by decide) rfl (by decide) (law_36 hR hj6 hL nx)
    | 37, _ => exact l_tab 1218 (x_at tdL_h 11 rfl) et (by decide) (by decide) rfl (by decide) (law_37 hR hj6 hL nx)
    | t + 38, q => exact absurd q (by omega)
  · refine l_tableOut 1241 (x_at tdL_h 11 rfl) (Or.inr ?_) (by decide) (nx _ _ hR)
    rw [et, nI_toInt (by omega)]
    omega
theorem law_loop {v : lV} (hL : lL v ≤ 3072) : ∀ (n j : Nat) (S M : xSt), Rel S M → j ≤ lL v → lL v < j + n → XL v 18 [] (nI j) S M := by
  intro n
  induction n with
  | zero => intro j S M _ h1 h2; omega
  | succ n ih => exact fun j S M hR h1 h2 => law_step hR hL h1 (fun S1 M1 h6 hR1 => ih (j + 6) S1 M1 hR1 h6 (by omega))
end
