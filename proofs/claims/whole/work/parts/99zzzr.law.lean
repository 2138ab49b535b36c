/-! ===== the law ===== -/
section LAW
abbrev Y_La (nm : String) : Meth := (⟨"MissCurvesLaw", nm, "([I)Z"⟩, code, 4, some .boolean)
def K_La_0 : List (Nat × Instr × Nat) := [(0, .new 7, 3), (3, .dup, 1), (4, .invokespecial 9, 3), (7, .astore_n 1, 1), (8, .new 10, 3), (11, .dup, 1), (12, .invokespecial 12, 3), (15, .astore_n 2, 1), (16, .iconst 0, 1), (17, .istore_n 3, 1), (18, .iload_n 3, 1), (19, .aload_n 0, 1), (20, .arraylength, 1), (21, .bipush 6, 2), (23, .isub, 1), (24, .if_icmp .gt 1343, 3), (27, .aload_n 0, 1), (28, .iload_n 3, 1), (29, .iaload, 1), (30, .bipush 63, 2), (32, .iand, 1), (33, .tableswitch 1328 0 42 #[187, 220, 253, 296, 329, 392, 415, 428, 441, 454, 467, 480, 493, 506, 529, 562, 605, 638, 651, 664, 697, 731, 764, 787, 810, 843, 876, 909, 942, 975, 998, 1021, 1054, 1067, 1080, 1103, 1137, 1180, 1213, 1246, 1269, 1292, 1315], 187), (220, .aload_n 1, 1), (221, .aload_n 0, 1), (222, .iload_n 3, 1), (223, .iconst 1, 1), (224, .iadd, 1), (225, .iaload, 1), (226, .aload_n 0, 1), (227, .iload_n 3, 1), (228, .iconst 2, 1), (229, .iadd, 1), (230, .iaload, 1), (231, .invokevirtual 13, 3), (234, .aload_n 2, 1), (235, .aload_n 0, 1), (236, .iload_n 3, 1), (237, .iconst 1, 1), (238, .iadd, 1), (239, .iaload, 1)]
theorem kk_La_0 : ckk code K_La_0 = true := by decide +kernel
def K_La_1 : List (Nat × Instr × Nat) := [(240, .aload_n 0, 1), (241, .iload_n 3, 1), (242, .iconst 2, 1), (243, .iadd, 1), (244, .iaload, 1), (245, .invokevirtual 17, 3), (248, .if_icmp .eq 1113, 3), (251, .iconst 0, 1), (252, .ireturn, 1), (253, .aload_n 1, 1), (254, .aload_n 0, 1), (255, .iload_n 3, 1), (256, .iconst 1, 1), (257, .iadd, 1), (258, .iaload, 1), (259, .aload_n 0, 1), (260, .iload_n 3, 1), (261, .iconst 2, 1), (262, .iadd, 1), (263, .iaload, 1), (264, .invokevirtual 18, 3), (267, .aload_n 2, 1), (268, .aload_n 0, 1), (269, .iload_n 3, 1), (270, .iconst 1, 1), (271, .iadd, 1), (272, .iaload, 1), (273, .aload_n 0, 1), (274, .iload_n 3, 1), (275, .iconst 2, 1), (276, .iadd, 1), (277, .iaload, 1), (278, .invokevirtual 21, 3), (281, .if_icmp .eq 1080, 3), (284, .iconst 0, 1), (285, .ireturn, 1), (286, .aload_n 1, 1), (287, .aload_n 0, 1), (288, .iload_n 3, 1), (289, .iconst 1, 1)]
theorem kk_La_1 : ckk code K_La_1 = true := by decide +kernel
def K_La_2 : List (Nat × Instr × Nat) := [(290, .iadd, 1), (291, .iaload, 1), (292, .aload_n 0, 1), (293, .iload_n 3, 1), (294, .iconst 2, 1), (295, .iadd, 1), (296, .iaload, 1), (297, .aload_n 0, 1), (298, .iload_n 3, 1), (299, .iconst 3, 1), (300, .iadd, 1), (301, .iaload, 1), (302, .invokevirtual 22, 3), (305, .aload_n 2, 1), (306, .aload_n 0, 1), (307, .iload_n 3, 1), (308, .iconst 1, 1), (309, .iadd, 1), (310, .iaload, 1), (311, .aload_n 0, 1), (312, .iload_n 3, 1), (313, .iconst 2, 1), (314, .iadd, 1), (315, .iaload, 1), (316, .aload_n 0, 1), (317, .iload_n 3, 1), (318, .iconst 3, 1), (319, .iadd, 1), (320, .iaload, 1), (321, .invokevirtual 26, 3), (324, .if_icmp .eq 1037, 3), (327, .iconst 0, 1), (328, .ireturn, 1), (329, .aload_n 1, 1), (330, .aload_n 0, 1), (331, .iload_n 3, 1), (332, .iconst 1, 1), (333, .iadd, 1), (334, .iaload, 1), (335, .aload_n 0, 1)]
theorem kk_La_2 : ckk code K_La_2 = true := by decide +kernel
def K_La_3 : List (Nat × Instr × Nat) := [(336, .iload_n 3, 1), (337, .iconst 2, 1), (338, .iadd, 1), (339, .iaload, 1), (340, .invokevirtual 27, 3), (343, .aload_n 2, 1), (344, .aload_n 0, 1), (345, .iload_n 3, 1), (346, .iconst 1, 1), (347, .iadd, 1), (348, .iaload, 1), (349, .aload_n 0, 1), (350, .iload_n 3, 1), (351, .iconst 2, 1), (352, .iadd, 1), (353, .iaload, 1), (354, .invokevirtual 30, 3), (357, .if_icmp .eq 1004, 3), (360, .iconst 0, 1), (361, .ireturn, 1), (362, .aload_n 1, 1), (363, .aload_n 0, 1), (364, .iload_n 3, 1), (365, .iconst 1, 1), (366, .iadd, 1), (367, .iaload, 1), (368, .aload_n 0, 1), (369, .iload_n 3, 1), (370, .iconst 2, 1), (371, .iadd, 1), (372, .iaload, 1), (373, .aload_n 0, 1), (374, .iload_n 3, 1), (375, .iconst 3, 1), (376, .iadd, 1), (377, .iaload, 1), (378, .aload_n 0, 1), (379, .iload_n 3, 1), (380, .iconst 4, 1), (381, .iadd, 1)]
theorem kk_La_3 : ckk code K_La_3 = true := by decide +kernel
def K_La_4 : List (Nat × Instr × Nat) := [(382, .iaload, 1), (383, .aload_n 0, 1), (384, .iload_n 3, 1), (385, .iconst 5, 1), (386, .iadd, 1), (387, .iaload, 1), (388, .invokevirtual 31, 3), (391, .aload_n 2, 1), (392, .aload_n 0, 1), (393, .iload_n 3, 1), (394, .iconst 1, 1), (395, .iadd, 1), (396, .iaload, 1), (397, .aload_n 0, 1), (398, .iload_n 3, 1), (399, .iconst 2, 1), (400, .iadd, 1), (401, .iaload, 1), (402, .aload_n 0, 1), (403, .iload_n 3, 1), (404, .iconst 3, 1), (405, .iadd, 1), (406, .iaload, 1), (407, .aload_n 0, 1), (408, .iload_n 3, 1), (409, .iconst 4, 1), (410, .iadd, 1), (411, .iaload, 1), (412, .aload_n 0, 1), (413, .iload_n 3, 1), (414, .iconst 5, 1), (415, .iadd, 1), (416, .iaload, 1), (417, .invokevirtual 35, 3), (420, .if_icmp .eq 941, 3), (423, .iconst 0, 1), (424, .ireturn, 1), (425, .aload_n 1, 1), (426, .aload_n 0, 1), (427, .iload_n 3, 1)]
theorem kk_La_4 : ckk code K_La_4 = true := by decide +kernel
def K_La_5 : List (Nat × Instr × Nat) := [(428, .iconst 1, 1), (429, .iadd, 1), (430, .iaload, 1), (431, .invokevirtual 36, 3), (434, .aload_n 2, 1), (435, .aload_n 0, 1), (436, .iload_n 3, 1), (437, .iconst 1, 1), (438, .iadd, 1), (439, .iaload, 1), (440, .invokevirtual 40, 3), (443, .if_icmp .eq 918, 3), (446, .iconst 0, 1), (447, .ireturn, 1), (448, .aload_n 1, 1), (449, .invokevirtual 41, 3), (452, .aload_n 2, 1), (453, .invokevirtual 45, 3), (456, .if_icmp .eq 905, 3), (459, .iconst 0, 1), (460, .ireturn, 1), (461, .aload_n 1, 1), (462, .invokevirtual 46, 3), (465, .aload_n 2, 1), (466, .invokevirtual 49, 3), (469, .if_icmp .eq 892, 3), (472, .iconst 0, 1), (473, .ireturn, 1), (474, .aload_n 1, 1), (475, .invokevirtual 50, 3), (478, .aload_n 2, 1), (479, .invokevirtual 53, 3), (482, .if_icmp .eq 879, 3), (485, .iconst 0, 1), (486, .ireturn, 1), (487, .aload_n 1, 1), (488, .invokevirtual 54, 3), (491, .aload_n 2, 1), (492, .invokevirtual 57, 3), (495, .if_icmp .eq 866, 3)]
theorem kk_La_5 : ckk code K_La_5 = true := by decide +kernel
def K_La_6 : List (Nat × Instr × Nat) := [(498, .iconst 0, 1), (499, .ireturn, 1), (500, .aload_n 1, 1), (501, .invokevirtual 58, 3), (504, .aload_n 2, 1), (505, .invokevirtual 61, 3), (508, .if_icmp .eq 853, 3), (511, .iconst 0, 1), (512, .ireturn, 1), (513, .aload_n 1, 1), (514, .invokevirtual 62, 3), (517, .aload_n 2, 1), (518, .invokevirtual 65, 3), (521, .if_icmp .eq 840, 3), (524, .iconst 0, 1), (525, .ireturn, 1), (526, .aload_n 1, 1), (527, .invokevirtual 66, 3), (530, .aload_n 2, 1), (531, .invokevirtual 69, 3), (534, .if_icmp .eq 827, 3), (537, .iconst 0, 1), (538, .ireturn, 1), (539, .aload_n 1, 1), (540, .aload_n 0, 1), (541, .iload_n 3, 1), (542, .iconst 1, 1), (543, .iadd, 1), (544, .iaload, 1), (545, .invokevirtual 70, 3), (548, .aload_n 2, 1), (549, .aload_n 0, 1), (550, .iload_n 3, 1), (551, .iconst 1, 1), (552, .iadd, 1), (553, .iaload, 1), (554, .invokevirtual 73, 3), (557, .if_icmp .eq 804, 3), (560, .iconst 0, 1), (561, .ireturn, 1)]
theorem kk_La_6 : ckk code K_La_6 = true := by decide +kernel
def K_La_7 : List (Nat × Instr × Nat) := [(562, .aload_n 1, 1), (563, .aload_n 0, 1), (564, .iload_n 3, 1), (565, .iconst 1, 1), (566, .iadd, 1), (567, .iaload, 1), (568, .aload_n 0, 1), (569, .iload_n 3, 1), (570, .iconst 2, 1), (571, .iadd, 1), (572, .iaload, 1), (573, .invokevirtual 74, 3), (576, .aload_n 2, 1), (577, .aload_n 0, 1), (578, .iload_n 3, 1), (579, .iconst 1, 1), (580, .iadd, 1), (581, .iaload, 1), (582, .aload_n 0, 1), (583, .iload_n 3, 1), (584, .iconst 2, 1), (585, .iadd, 1), (586, .iaload, 1), (587, .invokevirtual 77, 3), (590, .if_icmp .eq 771, 3), (593, .iconst 0, 1), (594, .ireturn, 1), (595, .aload_n 1, 1), (596, .aload_n 0, 1), (597, .iload_n 3, 1), (598, .iconst 1, 1), (599, .iadd, 1), (600, .iaload, 1), (601, .aload_n 0, 1), (602, .iload_n 3, 1), (603, .iconst 2, 1), (604, .iadd, 1), (605, .iaload, 1), (606, .aload_n 0, 1), (607, .iload_n 3, 1)]
theorem kk_La_7 : ckk code K_La_7 = true := by decide +kernel
def K_La_8 : List (Nat × Instr × Nat) := [(608, .iconst 3, 1), (609, .iadd, 1), (610, .iaload, 1), (611, .invokevirtual 78, 3), (614, .aload_n 2, 1), (615, .aload_n 0, 1), (616, .iload_n 3, 1), (617, .iconst 1, 1), (618, .iadd, 1), (619, .iaload, 1), (620, .aload_n 0, 1), (621, .iload_n 3, 1), (622, .iconst 2, 1), (623, .iadd, 1), (624, .iaload, 1), (625, .aload_n 0, 1), (626, .iload_n 3, 1), (627, .iconst 3, 1), (628, .iadd, 1), (629, .iaload, 1), (630, .invokevirtual 81, 3), (633, .if_icmp .eq 728, 3), (636, .iconst 0, 1), (637, .ireturn, 1), (638, .aload_n 1, 1), (639, .aload_n 0, 1), (640, .iload_n 3, 1), (641, .iconst 1, 1), (642, .iadd, 1), (643, .iaload, 1), (644, .aload_n 0, 1), (645, .iload_n 3, 1), (646, .iconst 2, 1), (647, .iadd, 1), (648, .iaload, 1), (649, .invokevirtual 82, 3), (652, .aload_n 2, 1), (653, .aload_n 0, 1), (654, .iload_n 3, 1), (655, .iconst 1, 1)]
theorem kk_La_8 : ckk code K_La_8 = true := by decide +kernel
def K_La_9 : List (Nat × Instr × Nat) := [(656, .iadd, 1), (657, .iaload, 1), (658, .aload_n 0, 1), (659, .iload_n 3, 1), (660, .iconst 2, 1), (661, .iadd, 1), (662, .iaload, 1), (663, .invokevirtual 85, 3), (666, .if_icmp .eq 695, 3), (669, .iconst 0, 1), (670, .ireturn, 1), (671, .aload_n 1, 1), (672, .invokevirtual 86, 3), (675, .aload_n 2, 1), (676, .invokevirtual 89, 3), (679, .if_icmp .eq 682, 3), (682, .iconst 0, 1), (683, .ireturn, 1), (684, .aload_n 1, 1), (685, .invokevirtual 90, 3), (688, .aload_n 2, 1), (689, .invokevirtual 93, 3), (692, .if_icmp .eq 669, 3), (695, .iconst 0, 1), (696, .ireturn, 1), (697, .aload_n 1, 1), (698, .aload_n 0, 1), (699, .iload_n 3, 1), (700, .iconst 1, 1), (701, .iadd, 1), (702, .iaload, 1), (703, .aload_n 0, 1), (704, .iload_n 3, 1), (705, .iconst 2, 1), (706, .iadd, 1), (707, .iaload, 1), (708, .invokevirtual 94, 3), (711, .aload_n 2, 1), (712, .aload_n 0, 1), (713, .iload_n 3, 1)]
theorem kk_La_9 : ckk code K_La_9 = true := by decide +kernel
def K_La_10 : List (Nat × Instr × Nat) := [(714, .iconst 1, 1), (715, .iadd, 1), (716, .iaload, 1), (717, .aload_n 0, 1), (718, .iload_n 3, 1), (719, .iconst 2, 1), (720, .iadd, 1), (721, .iaload, 1), (722, .invokevirtual 97, 3), (725, .if_icmp .eq 636, 3), (728, .iconst 0, 1), (729, .ireturn, 1), (730, .aload_n 1, 1), (731, .aload_n 0, 1), (732, .iload_n 3, 1), (733, .iconst 1, 1), (734, .iadd, 1), (735, .iaload, 1), (736, .aload_n 0, 1), (737, .iload_n 3, 1), (738, .iconst 2, 1), (739, .iadd, 1), (740, .iaload, 1), (741, .invokevirtual 98, 3), (744, .aload_n 2, 1), (745, .aload_n 0, 1), (746, .iload_n 3, 1), (747, .iconst 1, 1), (748, .iadd, 1), (749, .iaload, 1), (750, .aload_n 0, 1), (751, .iload_n 3, 1), (752, .iconst 2, 1), (753, .iadd, 1), (754, .iaload, 1), (755, .invokevirtual 102, 3), (758, .lcmp, 1), (759, .ifCond .eq 602, 3), (762, .iconst 0, 1), (763, .ireturn, 1)]
theorem kk_La_10 : ckk code K_La_10 = true := by decide +kernel
def K_La_11 : List (Nat × Instr × Nat) := [(764, .aload_n 1, 1), (765, .aload_n 0, 1), (766, .iload_n 3, 1), (767, .iconst 1, 1), (768, .iadd, 1), (769, .iaload, 1), (770, .aload_n 0, 1), (771, .iload_n 3, 1), (772, .iconst 2, 1), (773, .iadd, 1), (774, .iaload, 1), (775, .invokevirtual 103, 3), (778, .aload_n 2, 1), (779, .aload_n 0, 1), (780, .iload_n 3, 1), (781, .iconst 1, 1), (782, .iadd, 1), (783, .iaload, 1), (784, .aload_n 0, 1), (785, .iload_n 3, 1), (786, .iconst 2, 1), (787, .iadd, 1), (788, .iaload, 1), (789, .invokevirtual 106, 3), (792, .if_icmp .eq 569, 3), (795, .iconst 0, 1), (796, .ireturn, 1), (797, .aload_n 1, 1), (798, .aload_n 0, 1), (799, .iload_n 3, 1), (800, .iconst 1, 1), (801, .iadd, 1), (802, .iaload, 1), (803, .invokevirtual 107, 3), (806, .aload_n 2, 1), (807, .aload_n 0, 1), (808, .iload_n 3, 1), (809, .iconst 1, 1), (810, .iadd, 1), (811, .iaload, 1)]
theorem kk_La_11 : ckk code K_La_11 = true := by decide +kernel
def K_La_12 : List (Nat × Instr × Nat) := [(812, .invokevirtual 110, 3), (815, .if_icmp .eq 546, 3), (818, .iconst 0, 1), (819, .ireturn, 1), (820, .aload_n 1, 1), (821, .aload_n 0, 1), (822, .iload_n 3, 1), (823, .iconst 1, 1), (824, .iadd, 1), (825, .iaload, 1), (826, .invokevirtual 111, 3), (829, .aload_n 2, 1), (830, .aload_n 0, 1), (831, .iload_n 3, 1), (832, .iconst 1, 1), (833, .iadd, 1), (834, .iaload, 1), (835, .invokevirtual 114, 3), (838, .if_icmp .eq 523, 3), (841, .iconst 0, 1), (842, .ireturn, 1), (843, .aload_n 1, 1), (844, .aload_n 0, 1), (845, .iload_n 3, 1), (846, .iconst 1, 1), (847, .iadd, 1), (848, .iaload, 1), (849, .aload_n 0, 1), (850, .iload_n 3, 1), (851, .iconst 2, 1), (852, .iadd, 1), (853, .iaload, 1), (854, .invokevirtual 115, 3), (857, .aload_n 2, 1), (858, .aload_n 0, 1), (859, .iload_n 3, 1), (860, .iconst 1, 1), (861, .iadd, 1), (862, .iaload, 1), (863, .aload_n 0, 1)]
theorem kk_La_12 : ckk code K_La_12 = true := by decide +kernel
def K_La_13 : List (Nat × Instr × Nat) := [(864, .iload_n 3, 1), (865, .iconst 2, 1), (866, .iadd, 1), (867, .iaload, 1), (868, .invokevirtual 118, 3), (871, .if_icmp .eq 490, 3), (874, .iconst 0, 1), (875, .ireturn, 1), (876, .aload_n 1, 1), (877, .aload_n 0, 1), (878, .iload_n 3, 1), (879, .iconst 1, 1), (880, .iadd, 1), (881, .iaload, 1), (882, .aload_n 0, 1), (883, .iload_n 3, 1), (884, .iconst 2, 1), (885, .iadd, 1), (886, .iaload, 1), (887, .invokevirtual 119, 3), (890, .aload_n 2, 1), (891, .aload_n 0, 1), (892, .iload_n 3, 1), (893, .iconst 1, 1), (894, .iadd, 1), (895, .iaload, 1), (896, .aload_n 0, 1), (897, .iload_n 3, 1), (898, .iconst 2, 1), (899, .iadd, 1), (900, .iaload, 1), (901, .invokevirtual 122, 3), (904, .if_icmp .eq 457, 3), (907, .iconst 0, 1), (908, .ireturn, 1), (909, .aload_n 1, 1), (910, .aload_n 0, 1), (911, .iload_n 3, 1), (912, .iconst 1, 1), (913, .iadd, 1)]
theorem kk_La_13 : ckk code K_La_13 = true := by decide +kernel
def K_La_14 : List (Nat × Instr × Nat) := [(914, .iaload, 1), (915, .aload_n 0, 1), (916, .iload_n 3, 1), (917, .iconst 2, 1), (918, .iadd, 1), (919, .iaload, 1), (920, .invokevirtual 123, 3), (923, .aload_n 2, 1), (924, .aload_n 0, 1), (925, .iload_n 3, 1), (926, .iconst 1, 1), (927, .iadd, 1), (928, .iaload, 1), (929, .aload_n 0, 1), (930, .iload_n 3, 1), (931, .iconst 2, 1), (932, .iadd, 1), (933, .iaload, 1), (934, .invokevirtual 126, 3), (937, .if_icmp .eq 424, 3), (940, .iconst 0, 1), (941, .ireturn, 1), (942, .aload_n 1, 1), (943, .aload_n 0, 1), (944, .iload_n 3, 1), (945, .iconst 1, 1), (946, .iadd, 1), (947, .iaload, 1), (948, .aload_n 0, 1), (949, .iload_n 3, 1), (950, .iconst 2, 1), (951, .iadd, 1), (952, .iaload, 1), (953, .invokevirtual 127, 3), (956, .aload_n 2, 1), (957, .aload_n 0, 1), (958, .iload_n 3, 1), (959, .iconst 1, 1), (960, .iadd, 1), (961, .iaload, 1)]
theorem kk_La_14 : ckk code K_La_14 = true := by decide +kernel
def K_La_15 : List (Nat × Instr × Nat) := [(962, .aload_n 0, 1), (963, .iload_n 3, 1), (964, .iconst 2, 1), (965, .iadd, 1), (966, .iaload, 1), (967, .invokevirtual 130, 3), (970, .if_icmp .eq 391, 3), (973, .iconst 0, 1), (974, .ireturn, 1), (975, .aload_n 1, 1), (976, .aload_n 0, 1), (977, .iload_n 3, 1), (978, .iconst 1, 1), (979, .iadd, 1), (980, .iaload, 1), (981, .aload_n 0, 1), (982, .iload_n 3, 1), (983, .iconst 2, 1), (984, .iadd, 1), (985, .iaload, 1), (986, .invokevirtual 131, 3), (989, .aload_n 2, 1), (990, .aload_n 0, 1), (991, .iload_n 3, 1), (992, .iconst 1, 1), (993, .iadd, 1), (994, .iaload, 1), (995, .aload_n 0, 1), (996, .iload_n 3, 1), (997, .iconst 2, 1), (998, .iadd, 1), (999, .iaload, 1), (1000, .invokevirtual 134, 3), (1003, .if_icmp .eq 358, 3), (1006, .iconst 0, 1), (1007, .ireturn, 1), (1008, .aload_n 1, 1), (1009, .aload_n 0, 1), (1010, .iload_n 3, 1), (1011, .iconst 1, 1)]
theorem kk_La_15 : ckk code K_La_15 = true := by decide +kernel
def K_La_16 : List (Nat × Instr × Nat) := [(1012, .iadd, 1), (1013, .iaload, 1), (1014, .invokevirtual 135, 3), (1017, .aload_n 2, 1), (1018, .aload_n 0, 1), (1019, .iload_n 3, 1), (1020, .iconst 1, 1), (1021, .iadd, 1), (1022, .iaload, 1), (1023, .invokevirtual 138, 3), (1026, .if_icmp .eq 335, 3), (1029, .iconst 0, 1), (1030, .ireturn, 1), (1031, .aload_n 1, 1), (1032, .aload_n 0, 1), (1033, .iload_n 3, 1), (1034, .iconst 1, 1), (1035, .iadd, 1), (1036, .iaload, 1), (1037, .invokevirtual 139, 3), (1040, .aload_n 2, 1), (1041, .aload_n 0, 1), (1042, .iload_n 3, 1), (1043, .iconst 1, 1), (1044, .iadd, 1), (1045, .iaload, 1), (1046, .invokevirtual 142, 3), (1049, .if_icmp .eq 312, 3), (1052, .iconst 0, 1), (1053, .ireturn, 1), (1054, .aload_n 1, 1), (1055, .aload_n 0, 1), (1056, .iload_n 3, 1), (1057, .iconst 1, 1), (1058, .iadd, 1), (1059, .iaload, 1), (1060, .aload_n 0, 1), (1061, .iload_n 3, 1), (1062, .iconst 2, 1), (1063, .iadd, 1)]
theorem kk_La_16 : ckk code K_La_16 = true := by decide +kernel
def K_La_17 : List (Nat × Instr × Nat) := [(1064, .iaload, 1), (1065, .invokevirtual 143, 3), (1068, .aload_n 2, 1), (1069, .aload_n 0, 1), (1070, .iload_n 3, 1), (1071, .iconst 1, 1), (1072, .iadd, 1), (1073, .iaload, 1), (1074, .aload_n 0, 1), (1075, .iload_n 3, 1), (1076, .iconst 2, 1), (1077, .iadd, 1), (1078, .iaload, 1), (1079, .invokevirtual 146, 3), (1082, .if_icmp .eq 279, 3), (1085, .iconst 0, 1), (1086, .ireturn, 1), (1087, .aload_n 1, 1), (1088, .invokevirtual 147, 3), (1091, .aload_n 2, 1), (1092, .invokevirtual 150, 3), (1095, .if_icmp .eq 266, 3), (1098, .iconst 0, 1), (1099, .ireturn, 1), (1100, .aload_n 1, 1), (1101, .invokevirtual 151, 3), (1104, .aload_n 2, 1), (1105, .invokevirtual 154, 3), (1108, .if_icmp .eq 253, 3), (1111, .iconst 0, 1), (1112, .ireturn, 1), (1113, .aload_n 1, 1), (1114, .aload_n 0, 1), (1115, .iload_n 3, 1), (1116, .iconst 1, 1), (1117, .iadd, 1), (1118, .iaload, 1), (1119, .invokevirtual 155, 3), (1122, .aload_n 2, 1), (1123, .aload_n 0, 1)]
theorem kk_La_17 : ckk code K_La_17 = true := by decide +kernel
def K_La_18 : List (Nat × Instr × Nat) := [(1124, .iload_n 3, 1), (1125, .iconst 1, 1), (1126, .iadd, 1), (1127, .iaload, 1), (1128, .invokevirtual 158, 3), (1131, .if_icmp .eq 230, 3), (1134, .iconst 0, 1), (1135, .ireturn, 1), (1136, .aload_n 1, 1), (1137, .aload_n 0, 1), (1138, .iload_n 3, 1), (1139, .iconst 1, 1), (1140, .iadd, 1), (1141, .iaload, 1), (1142, .aload_n 0, 1), (1143, .iload_n 3, 1), (1144, .iconst 2, 1), (1145, .iadd, 1), (1146, .iaload, 1), (1147, .invokevirtual 159, 3), (1150, .aload_n 2, 1), (1151, .aload_n 0, 1), (1152, .iload_n 3, 1), (1153, .iconst 1, 1), (1154, .iadd, 1), (1155, .iaload, 1), (1156, .aload_n 0, 1), (1157, .iload_n 3, 1), (1158, .iconst 2, 1), (1159, .iadd, 1), (1160, .iaload, 1), (1161, .invokevirtual 162, 3), (1164, .lcmp, 1), (1165, .ifCond .eq 196, 3), (1168, .iconst 0, 1), (1169, .ireturn, 1), (1170, .aload_n 1, 1), (1171, .aload_n 0, 1), (1172, .iload_n 3, 1), (1173, .iconst 1, 1)]
theorem kk_La_18 : ckk code K_La_18 = true := by decide +kernel
def K_La_19 : List (Nat × Instr × Nat) := [(1174, .iadd, 1), (1175, .iaload, 1), (1176, .aload_n 0, 1), (1177, .iload_n 3, 1), (1178, .iconst 2, 1), (1179, .iadd, 1), (1180, .iaload, 1), (1181, .aload_n 0, 1), (1182, .iload_n 3, 1), (1183, .iconst 3, 1), (1184, .iadd, 1), (1185, .iaload, 1), (1186, .invokevirtual 163, 3), (1189, .aload_n 2, 1), (1190, .aload_n 0, 1), (1191, .iload_n 3, 1), (1192, .iconst 1, 1), (1193, .iadd, 1), (1194, .iaload, 1), (1195, .aload_n 0, 1), (1196, .iload_n 3, 1), (1197, .iconst 2, 1), (1198, .iadd, 1), (1199, .iaload, 1), (1200, .aload_n 0, 1), (1201, .iload_n 3, 1), (1202, .iconst 3, 1), (1203, .iadd, 1), (1204, .iaload, 1), (1205, .invokevirtual 166, 3), (1208, .if_icmp .eq 153, 3), (1211, .iconst 0, 1), (1212, .ireturn, 1), (1213, .aload_n 1, 1), (1214, .aload_n 0, 1), (1215, .iload_n 3, 1), (1216, .iconst 1, 1), (1217, .iadd, 1), (1218, .iaload, 1), (1219, .aload_n 0, 1)]
theorem kk_La_19 : ckk code K_La_19 = true := by decide +kernel
def K_La_20 : List (Nat × Instr × Nat) := [(1220, .iload_n 3, 1), (1221, .iconst 2, 1), (1222, .iadd, 1), (1223, .iaload, 1), (1224, .invokevirtual 167, 3), (1227, .aload_n 2, 1), (1228, .aload_n 0, 1), (1229, .iload_n 3, 1), (1230, .iconst 1, 1), (1231, .iadd, 1), (1232, .iaload, 1), (1233, .aload_n 0, 1), (1234, .iload_n 3, 1), (1235, .iconst 2, 1), (1236, .iadd, 1), (1237, .iaload, 1), (1238, .invokevirtual 170, 3), (1241, .if_icmp .eq 120, 3), (1244, .iconst 0, 1), (1245, .ireturn, 1), (1246, .aload_n 1, 1), (1247, .aload_n 0, 1), (1248, .iload_n 3, 1), (1249, .iconst 1, 1), (1250, .iadd, 1), (1251, .iaload, 1), (1252, .aload_n 0, 1), (1253, .iload_n 3, 1), (1254, .iconst 2, 1), (1255, .iadd, 1), (1256, .iaload, 1), (1257, .invokevirtual 171, 3), (1260, .aload_n 2, 1), (1261, .aload_n 0, 1), (1262, .iload_n 3, 1), (1263, .iconst 1, 1), (1264, .iadd, 1), (1265, .iaload, 1), (1266, .aload_n 0, 1), (1267, .iload_n 3, 1)]
theorem kk_La_20 : ckk code K_La_20 = true := by decide +kernel
def K_La_21 : List (Nat × Instr × Nat) := [(1268, .iconst 2, 1), (1269, .iadd, 1), (1270, .iaload, 1), (1271, .invokevirtual 174, 3), (1274, .if_icmp .eq 87, 3), (1277, .iconst 0, 1), (1278, .ireturn, 1), (1279, .aload_n 1, 1), (1280, .aload_n 0, 1), (1281, .iload_n 3, 1), (1282, .iconst 1, 1), (1283, .iadd, 1), (1284, .iaload, 1), (1285, .invokevirtual 175, 3), (1288, .aload_n 2, 1), (1289, .aload_n 0, 1), (1290, .iload_n 3, 1), (1291, .iconst 1, 1), (1292, .iadd, 1), (1293, .iaload, 1), (1294, .invokevirtual 178, 3), (1297, .if_icmp .eq 64, 3), (1300, .iconst 0, 1), (1301, .ireturn, 1), (1302, .aload_n 1, 1), (1303, .aload_n 0, 1), (1304, .iload_n 3, 1), (1305, .iconst 1, 1), (1306, .iadd, 1), (1307, .iaload, 1), (1308, .invokevirtual 179, 3), (1311, .aload_n 2, 1), (1312, .aload_n 0, 1), (1313, .iload_n 3, 1), (1314, .iconst 1, 1), (1315, .iadd, 1), (1316, .iaload, 1), (1317, .invokevirtual 182, 3), (1320, .if_icmp .eq 41, 3), (1323, .iconst 0, 1)]
theorem kk_La_21 : ckk code K_La_21 = true := by decide +kernel
def K_La_22 : List (Nat × Instr × Nat) := [(1324, .ireturn, 1), (1325, .aload_n 1, 1), (1326, .aload_n 0, 1), (1327, .iload_n 3, 1), (1328, .iconst 1, 1), (1329, .iadd, 1), (1330, .iaload, 1), (1331, .invokevirtual 183, 3), (1334, .aload_n 2, 1), (1335, .aload_n 0, 1), (1336, .iload_n 3, 1), (1337, .iconst 1, 1), (1338, .iadd, 1), (1339, .iaload, 1), (1340, .invokevirtual 186, 3), (1343, .if_icmp .eq 18, 3), (1346, .iconst 0, 1), (1347, .ireturn, 1), (1348, .aload_n 1, 1), (1349, .invokevirtual 187, 3), (1352, .aload_n 2, 1), (1353, .invokevirtual 190, 3), (1356, .if_icmp .eq 5, 3), (1359, .iconst 0, 1), (1360, .ireturn, 1), (1361, .iinc 3 6, 3), (1364, .goto (-1346), 3), (1367, .iconst 1, 1), (1368, .ireturn, 1)]
theorem kk_La_22 : ckk code K_La_22 = true := by decide +kernel
theorem ml_La_9 : ILk "MissCurvesLaw" 9 Y_Mc_init 0 := ⟨yk_Mc_init, (tm1 27 rfl rfl), (tm1 28 rfl rfl), rfl, rfl⟩
theorem ml_La_12 : ILk "MissCurvesLaw" 12 Y_Mo_init 0 := ⟨yk_Mo_init, (tm6 87 rfl rfl), (tm6 88 rfl rfl), rfl, rfl⟩
theorem ml_La_13 : VLk "MissCurvesLaw" 13 Y_Mc_of 2 10 := ⟨yk_Mc_of, (tm3 0 rfl rfl), (tm3 1 rfl rfl), (tm3 2 rfl rfl), _, _, rfl⟩
theorem ml_La_17 : VLk "MissCurvesLaw" 17 Y_Mo_of 2 11 := ⟨yk_Mo_of, (tm7 74 rfl rfl), (tm7 75 rfl rfl), (tm7 76 rfl rfl), _, _, rfl⟩
theorem ml_La_18 : VLk "MissCurvesLaw" 18 Y_Mc_top 2 10 := ⟨yk_Mc_top, (tm3 7 rfl rfl), (tm3 8 rfl rfl), (tm3 9 rfl rfl), _, _, rfl⟩
theorem ml_La_21 : VLk "MissCurvesLaw" 21 Y_Mo_top 2 11 := ⟨yk_Mo_top, (tm7 81 rfl rfl), (tm7 82 rfl rfl), (tm7 83 rfl rfl), _, _, rfl⟩
theorem ml_La_22 : VLk "MissCurvesLaw" 22 Y_Mc_key 3 10 := ⟨yk_Mc_key, (tm3 11 rfl rfl), (tm3 12 rfl rfl), (tm3 13 rfl rfl), _, _, rfl⟩
theorem ml_La_26 : VLk "MissCurvesLaw" 26 Y_Mo_key 3 11 := ⟨yk_Mo_key, (tm7 85 rfl rfl), (tm7 86 rfl rfl), (tm7 87 rfl rfl), _, _, rfl⟩
theorem ml_La_27 : VLk "MissCurvesLaw" 27 Y_Mc_terms 2 10 := ⟨yk_Mc_terms, (tm3 55 rfl rfl), (tm3 56 rfl rfl), (tm3 57 rfl rfl), _, _, rfl⟩
theorem ml_La_30 : VLk "MissCurvesLaw" 30 Y_Mo_terms 2 11 := ⟨yk_Mo_terms, (tm7 166 rfl rfl), (tm7 167 rfl rfl), (tm7 168 rfl rfl), _, _, rfl⟩
theorem ml_La_31 : VLk "MissCurvesLaw" 31 Y_Mc_feed 5 10 := ⟨yk_Mc_feed, (tm3 97 rfl rfl), (tm3 98 rfl rfl), (tm3 99 rfl rfl), _, _, rfl⟩
theorem ml_La_35 : VLk "MissCurvesLaw" 35 Y_Mo_feed 5 11 := ⟨yk_Mo_feed, (tm7 212 rfl rfl), (tm7 213 rfl rfl), (tm7 214 rfl rfl), _, _, rfl⟩
theorem ml_La_36 : VLk "MissCurvesLaw" 36 Y_Mc_end 1 10 := ⟨yk_Mc_end, (tm3 105 rfl rfl), (tm3 106 rfl rfl), (tm3 107 rfl rfl), _, _, rfl⟩
theorem ml_La_40 : VLk "MissCurvesLaw" 40 Y_Mo_end 1 11 := ⟨yk_Mo_end, (tm7 216 rfl rfl), (tm7 217 rfl rfl), (tm7 218 rfl rfl), _, _, rfl⟩
theorem ml_La_41 : VLk "MissCurvesLaw" 41 Y_Mc_row 0 10 := ⟨yk_Mc_row, (tm3 109 rfl rfl), (tm3 110 rfl rfl), (tm3 111 rfl rfl), _, _, rfl⟩
theorem ml_La_45 : VLk "MissCurvesLaw" 45 Y_Mo_row 0 11 := ⟨yk_Mo_row, (tm7 176 rfl rfl), (tm7 177 rfl rfl), (tm7 178 rfl rfl), _, _, rfl⟩
theorem ml_La_46 : VLk "MissCurvesLaw" 46 Y_Mc_blanks 0 10 := ⟨yk_Mc_blanks, (tm3 144 rfl rfl), (tm3 145 rfl rfl), (tm3 146 rfl rfl), _, _, rfl⟩
theorem ml_La_49 : VLk "MissCurvesLaw" 49 Y_Mo_blanks 0 11 := ⟨yk_Mo_blanks, (tm7 208 rfl rfl), (tm7 209 rfl rfl), (tm7 210 rfl rfl), _, _, rfl⟩
theorem ml_La_50 : VLk "MissCurvesLaw" 50 Y_Mc_policy 0 10 := ⟨yk_Mc_policy, (tm3 148 rfl rfl), (tm3 149 rfl rfl), (tm3 150 rfl rfl), _, _, rfl⟩
theorem ml_La_53 : VLk "MissCurvesLaw" 53 Y_Mo_policy 0 11 := ⟨yk_Mo_policy, (tm7 220 rfl rfl), (tm7 221 rfl rfl), (tm7 222 rfl rfl), _, _, rfl⟩
theorem ml_La_54 : VLk "MissCurvesLaw" 54 Y_Mc_law 0 10 := ⟨yk_Mc_law, (tm3 230 rfl rfl), (tm3 231 rfl rfl), (tm3 232 rfl rfl), _, _, rfl⟩
theorem ml_La_57 : VLk "MissCurvesLaw" 57 Y_Mo_law 0 11 := ⟨yk_Mo_law, (tm8 7 rfl rfl), (tm8 8 rfl rfl), (tm8 9 rfl rfl), _, _, rfl⟩
theorem ml_La_58 : VLk "MissCurvesLaw" 58 Y_Mc_orders 0 10 := ⟨yk_Mc_orders, (tm4 100 rfl rfl), (tm4 101 rfl rfl), (tm4 102 rfl rfl), _, _, rfl⟩
theorem ml_La_61 : VLk "MissCurvesLaw" 61 Y_Mo_orders 0 11 := ⟨yk_Mo_orders, (tm9 87 rfl rfl), (tm9 88 rfl rfl), (tm9 89 rfl rfl), _, _, rfl⟩
theorem ml_La_62 : VLk "MissCurvesLaw" 62 Y_Mc_fault 0 10 := ⟨yk_Mc_fault, (tm4 165 rfl rfl), (tm4 166 rfl rfl), (tm4 167 rfl rfl), _, _, rfl⟩
theorem ml_La_65 : VLk "MissCurvesLaw" 65 Y_Mo_fault 0 11 := ⟨yk_Mo_fault, (tm8 79 rfl rfl), (tm8 80 rfl rfl), (tm8 81 rfl rfl), _, _, rfl⟩
theorem ml_La_66 : VLk "MissCurvesLaw" 66 Y_Mc_stopped 0 10 := ⟨yk_Mc_stopped, (tm4 169 rfl rfl), (tm4 170 rfl rfl), (tm4 171 rfl rfl), _, _, rfl⟩
theorem ml_La_69 : VLk "MissCurvesLaw" 69 Y_Mo_stopped 0 11 := ⟨yk_Mo_stopped, (tm9 83 rfl rfl), (tm9 84 rfl rfl), (tm9 85 rfl rfl), _, _, rfl⟩
theorem ml_La_70 : VLk "MissCurvesLaw" 70 Y_Mc_force 1 10 := ⟨yk_Mc_force, (tm4 173 rfl rfl), (tm4 174 rfl rfl), (tm4 175 rfl rfl), _, _, rfl⟩
theorem ml_La_73 : VLk "MissCurvesLaw" 73 Y_Mo_force 1 11 := ⟨yk_Mo_force, (tm8 83 rfl rfl), (tm8 84 rfl rfl), (tm8 85 rfl rfl), _, _, rfl⟩
theorem ml_La_74 : VLk "MissCurvesLaw" 74 Y_Mc_read 2 10 := ⟨yk_Mc_read, (tm4 181 rfl rfl), (tm4 182 rfl rfl), (tm4 183 rfl rfl), _, _, rfl⟩
theorem ml_La_77 : VLk "MissCurvesLaw" 77 Y_Mo_read 2 11 := ⟨yk_Mo_read, (tm8 95 rfl rfl), (tm8 96 rfl rfl), (tm8 97 rfl rfl), _, _, rfl⟩
theorem ml_La_78 : VLk "MissCurvesLaw" 78 Y_Mc_loop 3 10 := ⟨yk_Mc_loop, (tm4 189 rfl rfl), (tm4 190 rfl rfl), (tm4 191 rfl rfl), _, _, rfl⟩
theorem ml_La_81 : VLk "MissCurvesLaw" 81 Y_Mo_loop 3 11 := ⟨yk_Mo_loop, (tm8 111 rfl rfl), (tm8 112 rfl rfl), (tm8 113 rfl rfl), _, _, rfl⟩
theorem ml_La_82 : VLk "MissCurvesLaw" 82 Y_Mc_drop 2 10 := ⟨yk_Mc_drop, (tm4 193 rfl rfl), (tm4 194 rfl rfl), (tm4 195 rfl rfl), _, _, rfl⟩
theorem ml_La_85 : VLk "MissCurvesLaw" 85 Y_Mo_drop 2 11 := ⟨yk_Mo_drop, (tm8 119 rfl rfl), (tm8 120 rfl rfl), (tm8 121 rfl rfl), _, _, rfl⟩
theorem ml_La_86 : VLk "MissCurvesLaw" 86 Y_Mc_pass 0 10 := ⟨yk_Mc_pass, (tm4 197 rfl rfl), (tm4 198 rfl rfl), (tm4 199 rfl rfl), _, _, rfl⟩
theorem ml_La_89 : VLk "MissCurvesLaw" 89 Y_Mo_pass 0 11 := ⟨yk_Mo_pass, (tm8 131 rfl rfl), (tm8 132 rfl rfl), (tm8 133 rfl rfl), _, _, rfl⟩
theorem ml_La_90 : VLk "MissCurvesLaw" 90 Y_Mc_undo 0 10 := ⟨yk_Mc_undo, (tm4 201 rfl rfl), (tm4 202 rfl rfl), (tm4 203 rfl rfl), _, _, rfl⟩
theorem ml_La_93 : VLk "MissCurvesLaw" 93 Y_Mo_undo 0 11 := ⟨yk_Mo_undo, (tm8 91 rfl rfl), (tm8 92 rfl rfl), (tm8 93 rfl rfl), _, _, rfl⟩
theorem ml_La_94 : VLk "MissCurvesLaw" 94 Y_Mc_misses 2 10 := ⟨yk_Mc_misses, (tm4 209 rfl rfl), (tm4 210 rfl rfl), (tm4 211 rfl rfl), _, _, rfl⟩
theorem ml_La_97 : VLk "MissCurvesLaw" 97 Y_Mo_misses 2 11 := ⟨yk_Mo_misses, (tm8 144 rfl rfl), (tm8 145 rfl rfl), (tm8 146 rfl rfl), _, _, rfl⟩
theorem ml_La_98 : VLk "MissCurvesLaw" 98 Y_Mc_hull 2 10 := ⟨yk_Mc_hull, (tm4 220 rfl rfl), (tm4 221 rfl rfl), (tm4 222 rfl rfl), _, _, rfl⟩
theorem ml_La_102 : VLk "MissCurvesLaw" 102 Y_Mo_hull 2 11 := ⟨yk_Mo_hull, (tm8 159 rfl rfl), (tm8 160 rfl rfl), (tm8 161 rfl rfl), _, _, rfl⟩
theorem ml_La_103 : VLk "MissCurvesLaw" 103 Y_Mc_bend 2 10 := ⟨yk_Mc_bend, (tm5 2 rfl rfl), (tm5 3 rfl rfl), (tm5 4 rfl rfl), _, _, rfl⟩
theorem ml_La_106 : VLk "MissCurvesLaw" 106 Y_Mo_bend 2 11 := ⟨yk_Mo_bend, (tm8 169 rfl rfl), (tm8 170 rfl rfl), (tm8 171 rfl rfl), _, _, rfl⟩
theorem ml_La_107 : VLk "MissCurvesLaw" 107 Y_Mc_report 1 10 := ⟨yk_Mc_report, (tm5 6 rfl rfl), (tm5 7 rfl rfl), (tm5 8 rfl rfl), _, _, rfl⟩
theorem ml_La_110 : VLk "MissCurvesLaw" 110 Y_Mo_report 1 11 := ⟨yk_Mo_report, (tm8 181 rfl rfl), (tm8 182 rfl rfl), (tm8 183 rfl rfl), _, _, rfl⟩
theorem ml_La_111 : VLk "MissCurvesLaw" 111 Y_Mc_sign 1 10 := ⟨yk_Mc_sign, (tm5 144 rfl rfl), (tm5 145 rfl rfl), (tm5 146 rfl rfl), _, _, rfl⟩
theorem ml_La_114 : VLk "MissCurvesLaw" 114 Y_Mo_sign 1 11 := ⟨yk_Mo_sign, (tm8 193 rfl rfl), (tm8 194 rfl rfl), (tm8 195 rfl rfl), _, _, rfl⟩
theorem ml_La_115 : VLk "MissCurvesLaw" 115 Y_Mc_guess 2 10 := ⟨yk_Mc_guess, (tm5 159 rfl rfl), (tm5 160 rfl rfl), (tm5 161 rfl rfl), _, _, rfl⟩
theorem ml_La_118 : VLk "MissCurvesLaw" 118 Y_Mo_guess 2 11 := ⟨yk_Mo_guess, (tm8 197 rfl rfl), (tm8 198 rfl rfl), (tm8 199 rfl rfl), _, _, rfl⟩
theorem ml_La_119 : VLk "MissCurvesLaw" 119 Y_Mc_salted 2 10 := ⟨yk_Mc_salted, (tm5 170 rfl rfl), (tm5 171 rfl rfl), (tm5 172 rfl rfl), _, _, rfl⟩
theorem ml_La_122 : VLk "MissCurvesLaw" 122 Y_Mo_salted 2 11 := ⟨yk_Mo_salted, (tm8 203 rfl rfl), (tm8 204 rfl rfl), (tm8 205 rfl rfl), _, _, rfl⟩
theorem ml_La_123 : VLk "MissCurvesLaw" 123 Y_Mc_share 2 10 := ⟨yk_Mc_share, (tm5 174 rfl rfl), (tm5 175 rfl rfl), (tm5 176 rfl rfl), _, _, rfl⟩
theorem ml_La_126 : VLk "MissCurvesLaw" 126 Y_Mo_share 2 11 := ⟨yk_Mo_share, (tm8 207 rfl rfl), (tm8 208 rfl rfl), (tm8 209 rfl rfl), _, _, rfl⟩
theorem ml_La_127 : VLk "MissCurvesLaw" 127 Y_Mc_best 2 10 := ⟨yk_Mc_best, (tm5 202 rfl rfl), (tm5 203 rfl rfl), (tm5 204 rfl rfl), _, _, rfl⟩
theorem ml_La_130 : VLk "MissCurvesLaw" 130 Y_Mo_best 2 11 := ⟨yk_Mo_best, (tm8 219 rfl rfl), (tm8 220 rfl rfl), (tm8 221 rfl rfl), _, _, rfl⟩
theorem ml_La_131 : VLk "MissCurvesLaw" 131 Y_Mc_replay 2 10 := ⟨yk_Mc_replay, (tm5 218 rfl rfl), (tm5 219 rfl rfl), (tm5 220 rfl rfl), _, _, rfl⟩
theorem ml_La_134 : VLk "MissCurvesLaw" 134 Y_Mo_replay 2 11 := ⟨yk_Mo_replay, (tm8 236 rfl rfl), (tm8 237 rfl rfl), (tm8 238 rfl rfl), _, _, rfl⟩
theorem ml_La_135 : VLk "MissCurvesLaw" 135 Y_Mc_odd 1 10 := ⟨yk_Mc_odd, (tm6 1 rfl rfl), (tm6 2 rfl rfl), (tm6 3 rfl rfl), _, _, rfl⟩
theorem ml_La_138 : VLk "MissCurvesLaw" 138 Y_Mo_odd 1 11 := ⟨yk_Mo_odd, (tm9 39 rfl rfl), (tm9 40 rfl rfl), (tm9 41 rfl rfl), _, _, rfl⟩
theorem ml_La_139 : VLk "MissCurvesLaw" 139 Y_Mc_spilt 1 10 := ⟨yk_Mc_spilt, (tm6 5 rfl rfl), (tm6 6 rfl rfl), (tm6 7 rfl rfl), _, _, rfl⟩
theorem ml_La_142 : VLk "MissCurvesLaw" 142 Y_Mo_spilt 1 11 := ⟨yk_Mo_spilt, (tm9 43 rfl rfl), (tm9 44 rfl rfl), (tm9 45 rfl rfl), _, _, rfl⟩
theorem ml_La_143 : VLk "MissCurvesLaw" 143 Y_Mc_seen 2 10 := ⟨yk_Mc_seen, (tm6 15 rfl rfl), (tm6 16 rfl rfl), (tm6 17 rfl rfl), _, _, rfl⟩
theorem ml_La_146 : VLk "MissCurvesLaw" 146 Y_Mo_seen 2 11 := ⟨yk_Mo_seen, (tm9 47 rfl rfl), (tm9 48 rfl rfl), (tm9 49 rfl rfl), _, _, rfl⟩
theorem ml_La_147 : VLk "MissCurvesLaw" 147 Y_Mc_forget 0 10 := ⟨yk_Mc_forget, (tm6 20 rfl rfl), (tm6 21 rfl rfl), (tm6 22 rfl rfl), _, _, rfl⟩
theorem ml_La_150 : VLk "MissCurvesLaw" 150 Y_Mo_forget 0 11 := ⟨yk_Mo_forget, (tm9 52 rfl rfl), (tm9 53 rfl rfl), (tm9 54 rfl rfl), _, _, rfl⟩
theorem ml_La_151 : VLk "MissCurvesLaw" 151 Y_Mc_canBe 0 10 := ⟨yk_Mc_canBe, (tm6 24 rfl rfl), (tm6 25 rfl rfl), (tm6 26 rfl rfl), _, _, rfl⟩
theorem ml_La_154 : VLk "MissCurvesLaw" 154 Y_Mo_canBe 0 11 := ⟨yk_Mo_canBe, (tm9 56 rfl rfl), (tm9 57 rfl rfl), (tm9 58 rfl rfl), _, _, rfl⟩
theorem ml_La_155 : VLk "MissCurvesLaw" 155 Y_Mc_ask 1 10 := ⟨yk_Mc_ask, (tm6 33 rfl rfl), (tm6 34 rfl rfl), (tm6 35 rfl rfl), _, _, rfl⟩
theorem ml_La_158 : VLk "MissCurvesLaw" 158 Y_Mo_ask 1 11 := ⟨yk_Mo_ask, (tm9 64 rfl rfl), (tm9 65 rfl rfl), (tm9 66 rfl rfl), _, _, rfl⟩
theorem ml_La_159 : VLk "MissCurvesLaw" 159 Y_Mc_few 2 10 := ⟨yk_Mc_few, (tm6 44 rfl rfl), (tm6 45 rfl rfl), (tm6 46 rfl rfl), _, _, rfl⟩
theorem ml_La_162 : VLk "MissCurvesLaw" 162 Y_Mo_few 2 11 := ⟨yk_Mo_few, (tm9 73 rfl rfl), (tm9 74 rfl rfl), (tm9 75 rfl rfl), _, _, rfl⟩
theorem ml_La_163 : VLk "MissCurvesLaw" 163 Y_Mc_compare 3 10 := ⟨yk_Mc_compare, (tm6 50 rfl rfl), (tm6 51 rfl rfl), (tm6 52 rfl rfl), _, _, rfl⟩
theorem ml_La_166 : VLk "MissCurvesLaw" 166 Y_Mo_compare 3 11 := ⟨yk_Mo_compare, (tm9 79 rfl rfl), (tm9 80 rfl rfl), (tm9 81 rfl rfl), _, _, rfl⟩
theorem ml_La_167 : VLk "MissCurvesLaw" 167 Y_Mc_months 2 10 := ⟨yk_Mc_months, (tm6 54 rfl rfl), (tm6 55 rfl rfl), (tm6 56 rfl rfl), _, _, rfl⟩
theorem ml_La_170 : VLk "MissCurvesLaw" 170 Y_Mo_months 2 11 := ⟨yk_Mo_months, (tm9 118 rfl rfl), (tm9 119 rfl rfl), (tm9 120 rfl rfl), _, _, rfl⟩
theorem ml_La_171 : VLk "MissCurvesLaw" 171 Y_Mc_drawn 2 10 := ⟨yk_Mc_drawn, (tm6 68 rfl rfl), (tm6 69 rfl rfl), (tm6 70 rfl rfl), _, _, rfl⟩
theorem ml_La_174 : VLk "MissCurvesLaw" 174 Y_Mo_drawn 2 11 := ⟨yk_Mo_drawn, (tm9 133 rfl rfl), (tm9 134 rfl rfl), (tm9 135 rfl rfl), _, _, rfl⟩
theorem ml_La_175 : VLk "MissCurvesLaw" 175 Y_Mc_image 1 10 := ⟨yk_Mc_image, (tm6 72 rfl rfl), (tm6 73 rfl rfl), (tm6 74 rfl rfl), _, _, rfl⟩
theorem ml_La_178 : VLk "MissCurvesLaw" 178 Y_Mo_image 1 11 := ⟨yk_Mo_image, (tm7 51 rfl rfl), (tm7 52 rfl rfl), (tm7 53 rfl rfl), _, _, rfl⟩
theorem ml_La_179 : VLk "MissCurvesLaw" 179 Y_Mc_back 1 10 := ⟨yk_Mc_back, (tm6 81 rfl rfl), (tm6 82 rfl rfl), (tm6 83 rfl rfl), _, _, rfl⟩
theorem ml_La_182 : VLk "MissCurvesLaw" 182 Y_Mo_back 1 11 := ⟨yk_Mo_back, (tm7 66 rfl rfl), (tm7 67 rfl rfl), (tm7 68 rfl rfl), _, _, rfl⟩
theorem ml_La_183 : VLk "MissCurvesLaw" 183 Y_Mc_count 1 10 := ⟨yk_Mc_count, (tm3 89 rfl rfl), (tm3 90 rfl rfl), (tm3 91 rfl rfl), _, _, rfl⟩
theorem ml_La_186 : VLk "MissCurvesLaw" 186 Y_Mo_count 1 11 := ⟨yk_Mo_count, (tm9 137 rfl rfl), (tm9 138 rfl rfl), (tm9 139 rfl rfl), _, _, rfl⟩
theorem ml_La_187 : VLk "MissCurvesLaw" 187 Y_Mc_status 0 10 := ⟨yk_Mc_status, (tm3 93 rfl rfl), (tm3 94 rfl rfl), (tm3 95 rfl rfl), _, _, rfl⟩
theorem ml_La_190 : VLk "MissCurvesLaw" 190 Y_Mo_status 0 11 := ⟨yk_Mo_status, (tm9 141 rfl rfl), (tm9 142 rfl rfl), (tm9 143 rfl rfl), _, _, rfl⟩
variable {g : Gl} {M : Mem} {nm : String}
theorem CR.t0 {c : Nat} {z : ST} (h : CR c z M) : mT M 0 = (10, 0) := by
  obtain ⟨pf, pg, hL, -⟩ := h
  exact hL.1
def laQ : Option Value → Mem → Prop := fun r M2 => r = some (.int (nI 1)) ∧ mZ M2 ≤ 20000 ∧ mL M2 ≤ 2200000
abbrev laL (c : Nat) : List (Option Value) := [some (.retAddr 0), some (.ref 0), some (.ref 1020), some (.int (nI (6 * c)))]
theorem and63 (v : Int32) : ∃ d, d < 64 ∧ v &&& nI 63 = nI d := by
  refine ⟨v.toBitVec.toNat % 64, Nat.mod_lt _ (by decide), Int32.toBitVec_inj.mp (BitVec.eq_of_toNat_eq ?_)⟩
  rw [Int32.toBitVec_and, BitVec.toNat_and]
  show v.toBitVec.toNat &&& 63 = (BitVec.ofNat 32 (v.toBitVec.toNat % 64)).toNat
  rw [BitVec.toNat_ofNat, show 63 = 2 ^ 6 - 1 from rfl, Nat.and_two_pow_sub_one_eq_mod]
  omega
theorem lac_0 {c L : Nat} {z : ST} {xs : Nat → Int32} (hX : ScrOK g L xs) (hS : OutOK g) (hD : DgOK g) (hP : PvOK g) (h : CR c z M) (h2 : MR z M) (hO : ZOK c z) (hc : c < 512) (hl : 6 * c + 6 ≤ L) (hL : L ≤ 3072) {Q : Option Value → Mem → Prop} (Kc : ∀ z2 M2, ZOK (c + 1) z2 → CR (c + 1) z2 M2 → MR z2 M2 → Wp g (Y_La nm) 2048 1361 (laL c) [] M2 Q) : Wp g (Y_La nm) 2048 220 (laL c) [] M Q := by
  obtain ⟨x, z2, hO2, hC, hMo⟩ : ∃ (x : Int32) (z2 : ST), ZOK (c + 1) z2 ∧ CaC g Y_Mc_of [.int (xs (6 * c + 1)), .int (xs (6 * c + 2))] c M x z2 ∧ ∀ M2, MR z M2 → CaM g Y_Mo_of [.int (xs (6 * c + 1)), .int (xs (6 * c + 2))] M2 x z2 := (b_of (g := g)).two c z M hc hO h
  refine wp_aload_n rfl (ck_get kk_La_0 22 rfl) ?_
  refine wp_aload_nX rfl (ck_get kk_La_0 23 rfl) ?_
  refine wp_iload_n rfl (ck_get kk_La_0 24 rfl) ?_
  refine wp_iconst (v := nI 1) (by decide) (ck_get kk_La_0 25 rfl) ?_
  refine wp_iaddN (ck_get kk_La_0 26 rfl) ?_
  refine wp_sald hX (ck_get kk_La_0 27 rfl) (ixk_nI (k := 6 * c + 1) (by omega) (by omega)) ?_
  refine wp_aload_nX rfl (ck_get kk_La_0 28 rfl) ?_
  refine wp_iload_n rfl (ck_get kk_La_0 29 rfl) ?_
  refine wp_iconst (v := nI 2) (by decide) (ck_get kk_La_0 30 rfl) ?_
  refine wp_iaddN (ck_get kk_La_0 31 rfl) ?_
  refine wp_sald hX (ck_get kk_La_0 32 rfl) (ixk_nI (k := 6 * c + 2) (by omega) (by omega)) ?_
  refine wp_cV2i (ck_get kk_La_0 33 rfl) ml_La_13 (by omega) (Nat.le_of_ble_eq_true rfl) h.t0 (Ci.to hC ?_)
  rintro _ M2 ⟨rfl, hC2, hS2⟩
  have hM2 := h2.msame hS2
  refine wp_aload_n rfl (ck_get kk_La_0 34 rfl) ?_
  refine wp_aload_nX rfl (ck_get kk_La_0 35 rfl) ?_
  refine wp_iload_n rfl (ck_get kk_La_0 36 rfl) ?_
  refine wp_iconst (v := nI 1) (by decide) (ck_get kk_La_0 37 rfl) ?_
  refine wp_iaddN (ck_get kk_La_0 38 rfl) ?_
  refine wp_sald hX (ck_get kk_La_0 39 rfl) (ixk_nI (k := 6 * c + 1) (by omega) (by omega)) ?_
  refine wp_aload_nX rfl (ck_get kk_La_1 0 rfl) ?_
  refine wp_iload_n rfl (ck_get kk_La_1 1 rfl) ?_
  refine wp_iconst (v := nI 2) (by decide) (ck_get kk_La_1 2 rfl) ?_
  refine wp_iaddN (ck_get kk_La_1 3 rfl) ?_
  refine wp_sald hX (ck_get kk_La_1 4 rfl) (ixk_nI (k := 6 * c + 2) (by omega) (by omega)) ?_
  refine wp_cV2i (ck_get kk_La_1 5 rfl) ml_La_17 (by omega) (Nat.le_of_ble_eq_true rfl) hM2.1.1 (Ci.to (hMo M2 hM2) ?_)
  rintro _ M3 ⟨rfl, hM3, hS3⟩
  exact wp_icmp_eq (t := 1361) (ck_get kk_La_1 6 rfl) (by decide) (fun _ => Kc z2 M3 hO2 (hC2.csame hS3) hM3) (fun q => absurd rfl q)
theorem lac_1 {c L : Nat} {z : ST} {xs : Nat → Int32} (hX : ScrOK g L xs) (hS : OutOK g) (hD : DgOK g) (hP : PvOK g) (h : CR c z M) (h2 : MR z M) (hO : ZOK c z) (hc : c < 512) (hl : 6 * c + 6 ≤ L) (hL : L ≤ 3072) {Q : Option Value → Mem → Prop} (Kc : ∀ z2 M2, ZOK (c + 1) z2 → CR (c + 1) z2 M2 → MR z2 M2 → Wp g (Y_La nm) 2048 1361 (laL c) [] M2 Q) : Wp g (Y_La nm) 2048 253 (laL c) [] M Q := by
  obtain ⟨x, z2, hO2, hC, hMo⟩ : ∃ (x : Int32) (z2 : ST), ZOK (c + 1) z2 ∧ CaC g Y_Mc_top [.int (xs (6 * c + 1)), .int (xs (6 * c + 2))] c M x z2 ∧ ∀ M2, MR z M2 → CaM g Y_Mo_top [.int (xs (6 * c + 1)), .int (xs (6 * c + 2))] M2 x z2 := (b_top (g := g)).two c z M hc hO h
  refine wp_aload_n rfl (ck_get kk_La_1 9 rfl) ?_
  refine wp_aload_nX rfl (ck_get kk_La_1 10 rfl) ?_
  refine wp_iload_n rfl (ck_get kk_La_1 11 rfl) ?_
  refine wp_iconst (v := nI 1) (by decide) (ck_get kk_La_1 12 rfl) ?_
  refine wp_iaddN (ck_get kk_La_1 13 rfl) ?_
  refine wp_sald hX (ck_get kk_La_1 14 rfl) (ixk_nI (k := 6 * c + 1) (by omega) (by omega)) ?_
  refine wp_aload_nX rfl (ck_get kk_La_1 15 rfl) ?_
  refine wp_iload_n rfl (ck_get kk_La_1 16 rfl) ?_
  refine wp_iconst (v := nI 2) (by decide) (ck_get kk_La_1 17 rfl) ?_
  refine wp_iaddN (ck_get kk_La_1 18 rfl) ?_
  refine wp_sald hX (ck_get kk_La_1 19 rfl) (ixk_nI (k := 6 * c + 2) (by omega) (by omega)) ?_
  refine wp_cV2i (ck_get kk_La_1 20 rfl) ml_La_18 (by omega) (Nat.le_of_ble_eq_true rfl) h.t0 (Ci.to hC ?_)
  rintro _ M2 ⟨rfl, hC2, hS2⟩
  have hM2 := h2.msame hS2
  refine wp_aload_n rfl (ck_get kk_La_1 21 rfl) ?_
  refine wp_aload_nX rfl (ck_get kk_La_1 22 rfl) ?_
  refine wp_iload_n rfl (ck_get kk_La_1 23 rfl) ?_
  refine wp_iconst (v := nI 1) (by decide) (ck_get kk_La_1 24 rfl) ?_
  refine wp_iaddN (ck_get kk_La_1 25 rfl) ?_
  refine wp_sald hX (ck_get kk_La_1 26 rfl) (ixk_nI (k := 6 * c + 1) (by omega) (by omega)) ?_
  refine wp_aload_nX rfl (ck_get kk_La_1 27 rfl) ?_
  refine wp_iload_n rfl (ck_get kk_La_1 28 rfl) ?_
  refine wp_iconst (v := nI 2) (by decide) (ck_get kk_La_1 29 rfl) ?_
  refine wp_iaddN (ck_get kk_La_1 30 rfl) ?_
  refine wp_sald hX (ck_get kk_La_1 31 rfl) (ixk_nI (k := 6 * c + 2) (by omega) (by omega)) ?_
  refine wp_cV2i (ck_get kk_La_1 32 rfl) ml_La_21 (by omega) (Nat.le_of_ble_eq_true rfl) hM2.1.1 (Ci.to (hMo M2 hM2) ?_)
  rintro _ M3 ⟨rfl, hM3, hS3⟩
  exact wp_icmp_eq (t := 1361) (ck_get kk_La_1 33 rfl) (by decide) (fun _ => Kc z2 M3 hO2 (hC2.csame hS3) hM3) (fun q => absurd rfl q)
theorem lac_2 {c L : Nat} {z : ST} {xs : Nat → Int32} (hX : ScrOK g L xs) (hS : OutOK g) (hD : DgOK g) (hP : PvOK g) (h : CR c z M) (h2 : MR z M) (hO : ZOK c z) (hc : c < 512) (hl : 6 * c + 6 ≤ L) (hL : L ≤ 3072) {Q : Option Value → Mem → Prop} (Kc : ∀ z2 M2, ZOK (c + 1) z2 → CR (c + 1) z2 M2 → MR z2 M2 → Wp g (Y_La nm) 2048 1361 (laL c) [] M2 Q) : Wp g (Y_La nm) 2048 286 (laL c) [] M Q := by
  obtain ⟨x, z2, hO2, hC, hMo⟩ : ∃ (x : Int32) (z2 : ST), ZOK (c + 1) z2 ∧ CaC g Y_Mc_key [.int (xs (6 * c + 1)), .int (xs (6 * c + 2)), .int (xs (6 * c + 3))] c M x z2 ∧ ∀ M2, MR z M2 → CaM g Y_Mo_key [.int (xs (6 * c + 1)), .int (xs (6 * c + 2)), .int (xs (6 * c + 3))] M2 x z2 := (b_key (g := g)).two c z M hc hO h
  refine wp_aload_n rfl (ck_get kk_La_1 36 rfl) ?_
  refine wp_aload_nX rfl (ck_get kk_La_1 37 rfl) ?_
  refine wp_iload_n rfl (ck_get kk_La_1 38 rfl) ?_
  refine wp_iconst (v := nI 1) (by decide) (ck_get kk_La_1 39 rfl) ?_
  refine wp_iaddN (ck_get kk_La_2 0 rfl) ?_
  refine wp_sald hX (ck_get kk_La_2 1 rfl) (ixk_nI (k := 6 * c + 1) (by omega) (by omega)) ?_
  refine wp_aload_nX rfl (ck_get kk_La_2 2 rfl) ?_
  refine wp_iload_n rfl (ck_get kk_La_2 3 rfl) ?_
  refine wp_iconst (v := nI 2) (by decide) (ck_get kk_La_2 4 rfl) ?_
  refine wp_iaddN (ck_get kk_La_2 5 rfl) ?_
  refine wp_sald hX (ck_get kk_La_2 6 rfl) (ixk_nI (k := 6 * c + 2) (by omega) (by omega)) ?_
  refine wp_aload_nX rfl (ck_get kk_La_2 7 rfl) ?_
  refine wp_iload_n rfl (ck_get kk_La_2 8 rfl) ?_
  refine wp_iconst (v := nI 3) (by decide) (ck_get kk_La_2 9 rfl) ?_
  refine wp_iaddN (ck_get kk_La_2 10 rfl) ?_
  refine wp_sald hX (ck_get kk_La_2 11 rfl) (ixk_nI (k := 6 * c + 3) (by omega) (by omega)) ?_
  refine wp_cV3i (ck_get kk_La_2 12 rfl) ml_La_22 (by omega) (Nat.le_of_ble_eq_true rfl) h.t0 (Ci.to hC ?_)
  rintro _ M2 ⟨rfl, hC2, hS2⟩
  have hM2 := h2.msame hS2
  refine wp_aload_n rfl (ck_get kk_La_2 13 rfl) ?_
  refine wp_aload_nX rfl (ck_get kk_La_2 14 rfl) ?_
  refine wp_iload_n rfl (ck_get kk_La_2 15 rfl) ?_
  refine wp_iconst (v := nI 1) (by decide) (ck_get kk_La_2 16 rfl) ?_
  refine wp_iaddN (ck_get kk_La_2 17 rfl) ?_
  refine wp_sald hX (ck_get kk_La_2 18 rfl) (ixk_nI (k := 6 * c + 1) (by omega) (by omega)) ?_
  refine wp_aload_nX rfl (ck_get kk_La_2 19 rfl) ?_
  refine wp_iload_n rfl (ck_get kk_La_2 20 rfl) ?_
  refine wp_iconst (v := nI 2) (by decide) (ck_get kk_La_2 21 rfl) ?_
  refine wp_iaddN (ck_get kk_La_2 22 rfl) ?_
  refine wp_sald hX (ck_get kk_La_2 23 rfl) (ixk_nI (k := 6 * c + 2) (by omega) (by omega)) ?_
  refine wp_aload_nX rfl (ck_get kk_La_2 24 rfl) ?_
  refine wp_iload_n rfl (ck_get kk_La_2 25 rfl) ?_
  refine wp_iconst (v := nI 3) (by decide) (ck_get kk_La_2 26 rfl) ?_
  refine wp_iaddN (ck_get kk_La_2 27 rfl) ?_
  refine wp_sald hX (ck_get kk_La_2 28 rfl) (ixk_nI (k := 6 * c + 3) (by omega) (by omega)) ?_
  refine wp_cV3i (ck_get kk_La_2 29 rfl) ml_La_26 (by omega) (Nat.le_of_ble_eq_true rfl) hM2.1.1 (Ci.to (hMo M2 hM2) ?_)
  rintro _ M3 ⟨rfl, hM3, hS3⟩
  exact wp_icmp_eq (t := 1361) (ck_get kk_La_2 30 rfl) (by decide) (fun _ => Kc z2 M3 hO2 (hC2.csame hS3) hM3) (fun q => absurd rfl q)
theorem lac_3 {c L : Nat} {z : ST} {xs : Nat → Int32} (hX : ScrOK g L xs) (hS : OutOK g) (hD : DgOK g) (hP : PvOK g) (h : CR c z M) (h2 : MR z M) (hO : ZOK c z) (hc : c < 512) (hl : 6 * c + 6 ≤ L) (hL : L ≤ 3072) {Q : Option Value → Mem → Prop} (Kc : ∀ z2 M2, ZOK (c + 1) z2 → CR (c + 1) z2 M2 → MR z2 M2 → Wp g (Y_La nm) 2048 1361 (laL c) [] M2 Q) : Wp g (Y_La nm) 2048 329 (laL c) [] M Q := by
  obtain ⟨x, z2, hO2, hC, hMo⟩ : ∃ (x : Int32) (z2 : ST), ZOK (c + 1) z2 ∧ CaC g Y_Mc_terms [.int (xs (6 * c + 1)), .int (xs (6 * c + 2))] c M x z2 ∧ ∀ M2, MR z M2 → CaM g Y_Mo_terms [.int (xs (6 * c + 1)), .int (xs (6 * c + 2))] M2 x z2 := (b_terms (g := g)).two c z M hc hO h
  refine wp_aload_n rfl (ck_get kk_La_2 33 rfl) ?_
  refine wp_aload_nX rfl (ck_get kk_La_2 34 rfl) ?_
  refine wp_iload_n rfl (ck_get kk_La_2 35 rfl) ?_
  refine wp_iconst (v := nI 1) (by decide) (ck_get kk_La_2 36 rfl) ?_
  refine wp_iaddN (ck_get kk_La_2 37 rfl) ?_
  refine wp_sald hX (ck_get kk_La_2 38 rfl) (ixk_nI (k := 6 * c + 1) (by omega) (by omega)) ?_
  refine wp_aload_nX rfl (ck_get kk_La_2 39 rfl) ?_
  refine wp_iload_n rfl (ck_get kk_La_3 0 rfl) ?_
  refine wp_iconst (v := nI 2) (by decide) (ck_get kk_La_3 1 rfl) ?_
  refine wp_iaddN (ck_get kk_La_3 2 rfl) ?_
  refine wp_sald hX (ck_get kk_La_3 3 rfl) (ixk_nI (k := 6 * c + 2) (by omega) (by omega)) ?_
  refine wp_cV2i (ck_get kk_La_3 4 rfl) ml_La_27 (by omega) (Nat.le_of_ble_eq_true rfl) h.t0 (Ci.to hC ?_)
  rintro _ M2 ⟨rfl, hC2, hS2⟩
  have hM2 := h2.msame hS2
  refine wp_aload_n rfl (ck_get kk_La_3 5 rfl) ?_
  refine wp_aload_nX rfl (ck_get kk_La_3 6 rfl) ?_
  refine wp_iload_n rfl (ck_get kk_La_3 7 rfl) ?_
  refine wp_iconst (v := nI 1) (by decide) (ck_get kk_La_3 8 rfl) ?_
  refine wp_iaddN (ck_get kk_La_3 9 rfl) ?_
  refine wp_sald hX (ck_get kk_La_3 10 rfl) (ixk_nI (k := 6 * c + 1) (by omega) (by omega)) ?_
  refine wp_aload_nX rfl (ck_get kk_La_3 11 rfl) ?_
  refine wp_iload_n rfl (ck_get kk_La_3 12 rfl) ?_
  refine wp_iconst (v := nI 2) (by decide) (ck_get kk_La_3 13 rfl) ?_
  refine wp_iaddN (ck_get kk_La_3 14 rfl) ?_
  refine wp_sald hX (ck_get kk_La_3 15 rfl) (ixk_nI (k := 6 * c + 2) (by omega) (by omega)) ?_
  refine wp_cV2i (ck_get kk_La_3 16 rfl) ml_La_30 (by omega) (Nat.le_of_ble_eq_true rfl) hM2.1.1 (Ci.to (hMo M2 hM2) ?_)
  rintro _ M3 ⟨rfl, hM3, hS3⟩
  exact wp_icmp_eq (t := 1361) (ck_get kk_La_3 17 rfl) (by decide) (fun _ => Kc z2 M3 hO2 (hC2.csame hS3) hM3) (fun q => absurd rfl q)
theorem lac_4 {c L : Nat} {z : ST} {xs : Nat → Int32} (hX : ScrOK g L xs) (hS : OutOK g) (hD : DgOK g) (hP : PvOK g) (h : CR c z M) (h2 : MR z M) (hO : ZOK c z) (hc : c < 512) (hl : 6 * c + 6 ≤ L) (hL : L ≤ 3072) {Q : Option Value → Mem → Prop} (Kc : ∀ z2 M2, ZOK (c + 1) z2 → CR (c + 1) z2 M2 → MR z2 M2 → Wp g (Y_La nm) 2048 1361 (laL c) [] M2 Q) : Wp g (Y_La nm) 2048 362 (laL c) [] M Q := by
  obtain ⟨x, z2, hO2, hC, hMo⟩ : ∃ (x : Int32) (z2 : ST), ZOK (c + 1) z2 ∧ CaC g Y_Mc_feed [.int (xs (6 * c + 1)), .int (xs (6 * c + 2)), .int (xs (6 * c + 3)), .int (xs (6 * c + 4)), .int (xs (6 * c + 5))] c M x z2 ∧ ∀ M2, MR z M2 → CaM g Y_Mo_feed [.int (xs (6 * c + 1)), .int (xs (6 * c + 2)), .int (xs (6 * c + 3)), .int (xs (6 * c + 4)), .int (xs (6 * c + 5))] M2 x z2 := (b_feed (g := g)).two c z M hc hO h
  refine wp_aload_n rfl (ck_get kk_La_3 20 rfl) ?_
  refine wp_aload_nX rfl (ck_get kk_La_3 21 rfl) ?_
  refine wp_iload_n rfl (ck_get kk_La_3 22 rfl) ?_
  refine wp_iconst (v := nI 1) (by decide) (ck_get kk_La_3 23 rfl) ?_
  refine wp_iaddN (ck_get kk_La_3 24 rfl) ?_
  refine wp_sald hX (ck_get kk_La_3 25 rfl) (ixk_nI (k := 6 * c + 1) (by omega) (by omega)) ?_
  refine wp_aload_nX rfl (ck_get kk_La_3 26 rfl) ?_
  refine wp_iload_n rfl (ck_get kk_La_3 27 rfl) ?_
  refine wp_iconst (v := nI 2) (by decide) (ck_get kk_La_3 28 rfl) ?_
  refine wp_iaddN (ck_get kk_La_3 29 rfl) ?_
  refine wp_sald hX (ck_get kk_La_3 30 rfl) (ixk_nI (k := 6 * c + 2) (by omega) (by omega)) ?_
  refine wp_aload_nX rfl (ck_get kk_La_3 31 rfl) ?_
  refine wp_iload_n rfl (ck_get kk_La_3 32 rfl) ?_
  refine wp_iconst (v := nI 3) (by decide) (ck_get kk_La_3 33 rfl) ?_
  refine wp_iaddN (ck_get kk_La_3 34 rfl) ?_
  refine wp_sald hX (ck_get kk_La_3 35 rfl) (ixk_nI (k := 6 * c + 3) (by omega) (by omega)) ?_
  refine wp_aload_nX rfl (ck_get kk_La_3 36 rfl) ?_
  refine wp_iload_n rfl (ck_get kk_La_3 37 rfl) ?_
  refine wp_iconst (v := nI 4) (by decide) (ck_get kk_La_3 38 rfl) ?_
  refine wp_iaddN (ck_get kk_La_3 39 rfl) ?_
  refine wp_sald hX (ck_get kk_La_4 0 rfl) (ixk_nI (k := 6 * c + 4) (by omega) (by omega)) ?_
  refine wp_aload_nX rfl (ck_get kk_La_4 1 rfl) ?_
  refine wp_iload_n rfl (ck_get kk_La_4 2 rfl) ?_
  refine wp_iconst (v := nI 5) (by decide) (ck_get kk_La_4 3 rfl) ?_
  refine wp_iaddN (ck_get kk_La_4 4 rfl) ?_
  refine wp_sald hX (ck_get kk_La_4 5 rfl) (ixk_nI (k := 6 * c + 5) (by omega) (by omega)) ?_
  refine wp_cV5i (ck_get kk_La_4 6 rfl) ml_La_31 (by omega) (Nat.le_of_ble_eq_true rfl) h.t0 (Ci.to hC ?_)
  rintro _ M2 ⟨rfl, hC2, hS2⟩
  have hM2 := h2.msame hS2
  refine wp_aload_n rfl (ck_get kk_La_4 7 rfl) ?_
  refine wp_aload_nX rfl (ck_get kk_La_4 8 rfl) ?_
  refine wp_iload_n rfl (ck_get kk_La_4 9 rfl) ?_
  refine wp_iconst (v := nI 1) (by decide) (ck_get kk_La_4 10 rfl) ?_
  refine wp_iaddN (ck_get kk_La_4 11 rfl) ?_
  refine wp_sald hX (ck_get kk_La_4 12 rfl) (ixk_nI (k := 6 * c + 1) (by omega) (by omega)) ?_
  refine wp_aload_nX rfl (ck_get kk_La_4 13 rfl) ?_
  refine wp_iload_n rfl (ck_get kk_La_4 14 rfl) ?_
  refine wp_iconst (v := nI 2) (by decide) (ck_get kk_La_4 15 rfl) ?_
  refine wp_iaddN (ck_get kk_La_4 16 rfl) ?_
  refine wp_sald hX (ck_get kk_La_4 17 rfl) (ixk_nI (k := 6 * c + 2) (by omega) (by omega)) ?_
  refine wp_aload_nX rfl (ck_get kk_La_4 18 rfl) ?_
  refine wp_iload_n rfl (ck_get kk_La_4 19 rfl) ?_
  refine wp_iconst (v := nI 3) (by decide) (ck_get kk_La_4 20 rfl) ?_
  refine wp_iaddN (ck_get kk_La_4 21 rfl) ?_
  refine wp_sald hX (ck_get kk_La_4 22 rfl) (ixk_nI (k := 6 * c + 3) (by omega) (by omega)) ?_
  refine wp_aload_nX rfl (ck_get kk_La_4 23 rfl) ?_
  refine wp_iload_n rfl (ck_get kk_La_4 24 rfl) ?_
  refine wp_iconst (v := nI 4) (by decide) (ck_get kk_La_4 25 rfl) ?_
  refine wp_iaddN (ck_get kk_La_4 26 rfl) ?_
  refine wp_sald hX (ck_get kk_La_4 27 rfl) (ixk_nI (k := 6 * c + 4) (by omega) (by omega)) ?_
  refine wp_aload_nX rfl (ck_get kk_La_4 28 rfl) ?_
  refine wp_iload_n rfl (ck_get kk_La_4 29 rfl) ?_
  refine wp_iconst (v := nI 5) (by decide) (ck_get kk_La_4 30 rfl) ?_
  refine wp_iaddN (ck_get kk_La_4 31 rfl) ?_
  refine wp_sald hX (ck_get kk_La_4 32 rfl) (ixk_nI (k := 6 * c + 5) (by omega) (by omega)) ?_
  refine wp_cV5i (ck_get kk_La_4 33 rfl) ml_La_35 (by omega) (Nat.le_of_ble_eq_true rfl) hM2.1.1 (Ci.to (hMo M2 hM2) ?_)
  rintro _ M3 ⟨rfl, hM3, hS3⟩
  exact wp_icmp_eq (t := 1361) (ck_get kk_La_4 34 rfl) (by decide) (fun _ => Kc z2 M3 hO2 (hC2.csame hS3) hM3) (fun q => absurd rfl q)
theorem lac_5 {c L : Nat} {z : ST} {xs : Nat → Int32} (hX : ScrOK g L xs) (hS : OutOK g) (hD : DgOK g) (hP : PvOK g) (h : CR c z M) (h2 : MR z M) (hO : ZOK c z) (hc : c < 512) (hl : 6 * c + 6 ≤ L) (hL : L ≤ 3072) {Q : Option Value → Mem → Prop} (Kc : ∀ z2 M2, ZOK (c + 1) z2 → CR (c + 1) z2 M2 → MR z2 M2 → Wp g (Y_La nm) 2048 1361 (laL c) [] M2 Q) : Wp g (Y_La nm) 2048 425 (laL c) [] M Q := by
  obtain ⟨x, z2, hO2, hC, hMo⟩ : ∃ (x : Int32) (z2 : ST), ZOK (c + 1) z2 ∧ CaC g Y_Mc_end [.int (xs (6 * c + 1))] c M x z2 ∧ ∀ M2, MR z M2 → CaM g Y_Mo_end [.int (xs (6 * c + 1))] M2 x z2 := (b_end (g := g)).two c z M hc hO h
  refine wp_aload_n rfl (ck_get kk_La_4 37 rfl) ?_
  refine wp_aload_nX rfl (ck_get kk_La_4 38 rfl) ?_
  refine wp_iload_n rfl (ck_get kk_La_4 39 rfl) ?_
  refine wp_iconst (v := nI 1) (by decide) (ck_get kk_La_5 0 rfl) ?_
  refine wp_iaddN (ck_get kk_La_5 1 rfl) ?_
  refine wp_sald hX (ck_get kk_La_5 2 rfl) (ixk_nI (k := 6 * c + 1) (by omega) (by omega)) ?_
  refine wp_cV1i (ck_get kk_La_5 3 rfl) ml_La_36 (by omega) (Nat.le_of_ble_eq_true rfl) h.t0 (Ci.to hC ?_)
  rintro _ M2 ⟨rfl, hC2, hS2⟩
  have hM2 := h2.msame hS2
  refine wp_aload_n rfl (ck_get kk_La_5 4 rfl) ?_
  refine wp_aload_nX rfl (ck_get kk_La_5 5 rfl) ?_
  refine wp_iload_n rfl (ck_get kk_La_5 6 rfl) ?_
  refine wp_iconst (v := nI 1) (by decide) (ck_get kk_La_5 7 rfl) ?_
  refine wp_iaddN (ck_get kk_La_5 8 rfl) ?_
  refine wp_sald hX (ck_get kk_La_5 9 rfl) (ixk_nI (k := 6 * c + 1) (by omega) (by omega)) ?_
  refine wp_cV1i (ck_get kk_La_5 10 rfl) ml_La_40 (by omega) (Nat.le_of_ble_eq_true rfl) hM2.1.1 (Ci.to (hMo M2 hM2) ?_)
  rintro _ M3 ⟨rfl, hM3, hS3⟩
  exact wp_icmp_eq (t := 1361) (ck_get kk_La_5 11 rfl) (by decide) (fun _ => Kc z2 M3 hO2 (hC2.csame hS3) hM3) (fun q => absurd rfl q)
theorem lac_6 {c L : Nat} {z : ST} {xs : Nat → Int32} (hX : ScrOK g L xs) (hS : OutOK g) (hD : DgOK g) (hP : PvOK g) (h : CR c z M) (h2 : MR z M) (hO : ZOK c z) (hc : c < 512) (hl : 6 * c + 6 ≤ L) (hL : L ≤ 3072) {Q : Option Value → Mem → Prop} (Kc : ∀ z2 M2, ZOK (c + 1) z2 → CR (c + 1) z2 M2 → MR z2 M2 → Wp g (Y_La nm) 2048 1361 (laL c) [] M2 Q) : Wp g (Y_La nm) 2048 448 (laL c) [] M Q := by
  obtain ⟨x, z2, hO2, hC, hMo⟩ : ∃ (x : Int32) (z2 : ST), ZOK (c + 1) z2 ∧ CaC g Y_Mc_row [] c M x z2 ∧ ∀ M2, MR z M2 → CaM g Y_Mo_row [] M2 x z2 := (b_row (g := g)).two c z M hc hO h
  refine wp_aload_n rfl (ck_get kk_La_5 14 rfl) ?_
  refine wp_cV0i (ck_get kk_La_5 15 rfl) ml_La_41 (by omega) (Nat.le_of_ble_eq_true rfl) h.t0 (Ci.to hC ?_)
  rintro _ M2 ⟨rfl, hC2, hS2⟩
  have hM2 := h2.msame hS2
  refine wp_aload_n rfl (ck_get kk_La_5 16 rfl) ?_
  refine wp_cV0i (ck_get kk_La_5 17 rfl) ml_La_45 (by omega) (Nat.le_of_ble_eq_true rfl) hM2.1.1 (Ci.to (hMo M2 hM2) ?_)
  rintro _ M3 ⟨rfl, hM3, hS3⟩
  exact wp_icmp_eq (t := 1361) (ck_get kk_La_5 18 rfl) (by decide) (fun _ => Kc z2 M3 hO2 (hC2.csame hS3) hM3) (fun q => absurd rfl q)
theorem lac_7 {c L : Nat} {z : ST} {xs : Nat → Int32} (hX : ScrOK g L xs) (hS : OutOK g) (hD : DgOK g) (hP : PvOK g) (h : CR c z M) (h2 : MR z M) (hO : ZOK c z) (hc : c < 512) (hl : 6 * c + 6 ≤ L) (hL : L ≤ 3072) {Q : Option Value → Mem → Prop} (Kc : ∀ z2 M2, ZOK (c + 1) z2 → CR (c + 1) z2 M2 → MR z2 M2 → Wp g (Y_La nm) 2048 1361 (laL c) [] M2 Q) : Wp g (Y_La nm) 2048 461 (laL c) [] M Q := by
  obtain ⟨x, z2, hO2, hC, hMo⟩ : ∃ (x : Int32) (z2 : ST), ZOK (c + 1) z2 ∧ CaC g Y_Mc_blanks [] c M x z2 ∧ ∀ M2, MR z M2 → CaM g Y_Mo_blanks [] M2 x z2 := (b_blanks (g := g)).two c z M hc hO h
  refine wp_aload_n rfl (ck_get kk_La_5 21 rfl) ?_
  refine wp_cV0i (ck_get kk_La_5 22 rfl) ml_La_46 (by omega) (Nat.le_of_ble_eq_true rfl) h.t0 (Ci.to hC ?_)
  rintro _ M2 ⟨rfl, hC2, hS2⟩
  have hM2 := h2.msame hS2
  refine wp_aload_n rfl (ck_get kk_La_5 23 rfl) ?_
  refine wp_cV0i (ck_get kk_La_5 24 rfl) ml_La_49 (by omega) (Nat.le_of_ble_eq_true rfl) hM2.1.1 (Ci.to (hMo M2 hM2) ?_)
  rintro _ M3 ⟨rfl, hM3, hS3⟩
  exact wp_icmp_eq (t := 1361) (ck_get kk_La_5 25 rfl) (by decide) (fun _ => Kc z2 M3 hO2 (hC2.csame hS3) hM3) (fun q => absurd rfl q)
theorem lac_8 {c L : Nat} {z : ST} {xs : Nat → Int32} (hX : ScrOK g L xs) (hS : OutOK g) (hD : DgOK g) (hP : PvOK g) (h : CR c z M) (h2 : MR z M) (hO : ZOK c z) (hc : c < 512) (hl : 6 * c + 6 ≤ L) (hL : L ≤ 3072) {Q : Option Value → Mem → Prop} (Kc : ∀ z2 M2, ZOK (c + 1) z2 → CR (c + 1) z2 M2 → MR z2 M2 → Wp g (Y_La nm) 2048 1361 (laL c) [] M2 Q) : Wp g (Y_La nm) 2048 474 (laL c) [] M Q := by
  obtain ⟨x, z2, hO2, hC, hMo⟩ : ∃ (x : Int32) (z2 : ST), ZOK (c + 1) z2 ∧ CaC g Y_Mc_policy [] c M x z2 ∧ ∀ M2, MR z M2 → CaM g Y_Mo_policy [] M2 x z2 := (b_policy hS).two c z M hc hO h
  refine wp_aload_n rfl (ck_get kk_La_5 28 rfl) ?_
  refine wp_cV0i (ck_get kk_La_5 29 rfl) ml_La_50 (by omega) (Nat.le_of_ble_eq_true rfl) h.t0 (Ci.to hC ?_)
  rintro _ M2 ⟨rfl, hC2, hS2⟩
  have hM2 := h2.msame hS2
  refine wp_aload_n rfl (ck_get kk_La_5 30 rfl) ?_
  refine wp_cV0i (ck_get kk_La_5 31 rfl) ml_La_53 (by omega) (Nat.le_of_ble_eq_true rfl) hM2.1.1 (Ci.to (hMo M2 hM2) ?_)
  rintro _ M3 ⟨rfl, hM3, hS3⟩
  exact wp_icmp_eq (t := 1361) (ck_get kk_La_5 32 rfl) (by decide) (fun _ => Kc z2 M3 hO2 (hC2.csame hS3) hM3) (fun q => absurd rfl q)
theorem lac_9 {c L : Nat} {z : ST} {xs : Nat → Int32} (hX : ScrOK g L xs) (hS : OutOK g) (hD : DgOK g) (hP : PvOK g) (h : CR c z M) (h2 : MR z M) (hO : ZOK c z) (hc : c < 512) (hl : 6 * c + 6 ≤ L) (hL : L ≤ 3072) {Q : Option Value → Mem → Prop} (Kc : ∀ z2 M2, ZOK (c + 1) z2 → CR (c + 1) z2 M2 → MR z2 M2 → Wp g (Y_La nm) 2048 1361 (laL c) [] M2 Q) : Wp g (Y_La nm) 2048 487 (laL c) [] M Q := by
  obtain ⟨x, z2, hO2, hC, hMo⟩ : ∃ (x : Int32) (z2 : ST), ZOK (c + 1) z2 ∧ CaC g Y_Mc_law [] c M x z2 ∧ ∀ M2, MR z M2 → CaM g Y_Mo_law [] M2 x z2 := b_law hS c z M hc hO h
  refine wp_aload_n rfl (ck_get kk_La_5 35 rfl) ?_
  refine wp_cV0i (ck_get kk_La_5 36 rfl) ml_La_54 (by omega) (Nat.le_of_ble_eq_true rfl) h.t0 (Ci.to hC ?_)
  rintro _ M2 ⟨rfl, hC2, hS2⟩
  have hM2 := h2.msame hS2
  refine wp_aload_n rfl (ck_get kk_La_5 37 rfl) ?_
  refine wp_cV0i (ck_get kk_La_5 38 rfl) ml_La_57 (by omega) (Nat.le_of_ble_eq_true rfl) hM2.1.1 (Ci.to (hMo M2 hM2) ?_)
  rintro _ M3 ⟨rfl, hM3, hS3⟩
  exact wp_icmp_eq (t := 1361) (ck_get kk_La_5 39 rfl) (by decide) (fun _ => Kc z2 M3 hO2 (hC2.csame hS3) hM3) (fun q => absurd rfl q)
theorem lac_10 {c L : Nat} {z : ST} {xs : Nat → Int32} (hX : ScrOK g L xs) (hS : OutOK g) (hD : DgOK g) (hP : PvOK g) (h : CR c z M) (h2 : MR z M) (hO : ZOK c z) (hc : c < 512) (hl : 6 * c + 6 ≤ L) (hL : L ≤ 3072) {Q : Option Value → Mem → Prop} (Kc : ∀ z2 M2, ZOK (c + 1) z2 → CR (c + 1) z2 M2 → MR z2 M2 → Wp g (Y_La nm) 2048 1361 (laL c) [] M2 Q) : Wp g (Y_La nm) 2048 500 (laL c) [] M Q := by
  obtain ⟨x, z2, hO2, hC, hMo⟩ : ∃ (x : Int32) (z2 : ST), ZOK (c + 1) z2 ∧ CaC g Y_Mc_orders [] c M x z2 ∧ ∀ M2, MR z M2 → CaM g Y_Mo_orders [] M2 x z2 := b_orders hS c z M hc hO h
  refine wp_aload_n rfl (ck_get kk_La_6 2 rfl) ?_
  refine wp_cV0i (ck_get kk_La_6 3 rfl) ml_La_58 (by omega) (Nat.le_of_ble_eq_true rfl) h.t0 (Ci.to hC ?_)
  rintro _ M2 ⟨rfl, hC2, hS2⟩
  have hM2 := h2.msame hS2
  refine wp_aload_n rfl (ck_get kk_La_6 4 rfl) ?_
  refine wp_cV0i (ck_get kk_La_6 5 rfl) ml_La_61 (by omega) (Nat.le_of_ble_eq_true rfl) hM2.1.1 (Ci.to (hMo M2 hM2) ?_)
  rintro _ M3 ⟨rfl, hM3, hS3⟩
  exact wp_icmp_eq (t := 1361) (ck_get kk_La_6 6 rfl) (by decide) (fun _ => Kc z2 M3 hO2 (hC2.csame hS3) hM3) (fun q => absurd rfl q)
theorem lac_11 {c L : Nat} {z : ST} {xs : Nat → Int32} (hX : ScrOK g L xs) (hS : OutOK g) (hD : DgOK g) (hP : PvOK g) (h : CR c z M) (h2 : MR z M) (hO : ZOK c z) (hc : c < 512) (hl : 6 * c + 6 ≤ L) (hL : L ≤ 3072) {Q : Option Value → Mem → Prop} (Kc : ∀ z2 M2, ZOK (c + 1) z2 → CR (c + 1) z2 M2 → MR z2 M2 → Wp g (Y_La nm) 2048 1361 (laL c) [] M2 Q) : Wp g (Y_La nm) 2048 513 (laL c) [] M Q := by
  obtain ⟨x, z2, hO2, hC, hMo⟩ : ∃ (x : Int32) (z2 : ST), ZOK (c + 1) z2 ∧ CaC g Y_Mc_fault [] c M x z2 ∧ ∀ M2, MR z M2 → CaM g Y_Mo_fault [] M2 x z2 := (b_fault (g := g)).two c z M hc hO h
  refine wp_aload_n rfl (ck_get kk_La_6 9 rfl) ?_
  refine wp_cV0i (ck_get kk_La_6 10 rfl) ml_La_62 (by omega) (Nat.le_of_ble_eq_true rfl) h.t0 (Ci.to hC ?_)
  rintro _ M2 ⟨rfl, hC2, hS2⟩
  have hM2 := h2.msame hS2
  refine wp_aload_n rfl (ck_get kk_La_6 11 rfl) ?_
  refine wp_cV0i (ck_get kk_La_6 12 rfl) ml_La_65 (by omega) (Nat.le_of_ble_eq_true rfl) hM2.1.1 (Ci.to (hMo M2 hM2) ?_)
  rintro _ M3 ⟨rfl, hM3, hS3⟩
  exact wp_icmp_eq (t := 1361) (ck_get kk_La_6 13 rfl) (by decide) (fun _ => Kc z2 M3 hO2 (hC2.csame hS3) hM3) (fun q => absurd rfl q)
theorem lac_12 {c L : Nat} {z : ST} {xs : Nat → Int32} (hX : ScrOK g L xs) (hS : OutOK g) (hD : DgOK g) (hP : PvOK g) (h : CR c z M) (h2 : MR z M) (hO : ZOK c z) (hc : c < 512) (hl : 6 * c + 6 ≤ L) (hL : L ≤ 3072) {Q : Option Value → Mem → Prop} (Kc : ∀ z2 M2, ZOK (c + 1) z2 → CR (c + 1) z2 M2 → MR z2 M2 → Wp g (Y_La nm) 2048 1361 (laL c) [] M2 Q) : Wp g (Y_La nm) 2048 526 (laL c) [] M Q := by
  obtain ⟨x, z2, hO2, hC, hMo⟩ : ∃ (x : Int32) (z2 : ST), ZOK (c + 1) z2 ∧ CaC g Y_Mc_stopped [] c M x z2 ∧ ∀ M2, MR z M2 → CaM g Y_Mo_stopped [] M2 x z2 := (b_stopped (g := g)).two c z M hc hO h
  refine wp_aload_n rfl (ck_get kk_La_6 16 rfl) ?_
  refine wp_cV0i (ck_get kk_La_6 17 rfl) ml_La_66 (by omega) (Nat.le_of_ble_eq_true rfl) h.t0 (Ci.to hC ?_)
  rintro _ M2 ⟨rfl, hC2, hS2⟩
  have hM2 := h2.msame hS2
  refine wp_aload_n rfl (ck_get kk_La_6 18 rfl) ?_
  refine wp_cV0i (ck_get kk_La_6 19 rfl) ml_La_69 (by omega) (Nat.le_of_ble_eq_true rfl) hM2.1.1 (Ci.to (hMo M2 hM2) ?_)
  rintro _ M3 ⟨rfl, hM3, hS3⟩
  exact wp_icmp_eq (t := 1361) (ck_get kk_La_6 20 rfl) (by decide) (fun _ => Kc z2 M3 hO2 (hC2.csame hS3) hM3) (fun q => absurd rfl q)
theorem lac_13 {c L : Nat} {z : ST} {xs : Nat → Int32} (hX : ScrOK g L xs) (hS : OutOK g) (hD : DgOK g) (hP : PvOK g) (h : CR c z M) (h2 : MR z M) (hO : ZOK c z) (hc : c < 512) (hl : 6 * c + 6 ≤ L) (hL : L ≤ 3072) {Q : Option Value → Mem → Prop} (Kc : ∀ z2 M2, ZOK (c + 1) z2 → CR (c + 1) z2 M2 → MR z2 M2 → Wp g (Y_La nm) 2048 1361 (laL c) [] M2 Q) : Wp g (Y_La nm) 2048 539 (laL c) [] M Q := by
  obtain ⟨x, z2, hO2, hC, hMo⟩ : ∃ (x : Int32) (z2 : ST), ZOK (c + 1) z2 ∧ CaC g Y_Mc_force [.int (xs (6 * c + 1))] c M x z2 ∧ ∀ M2, MR z M2 → CaM g Y_Mo_force [.int (xs (6 * c + 1))] M2 x z2 := (b_force (g := g)).two c z M hc hO h
  refine wp_aload_n rfl (ck_get kk_La_6 23 rfl) ?_
  refine wp_aload_nX rfl (ck_get kk_La_6 24 rfl) ?_
  refine wp_iload_n rfl (ck_get kk_La_6 25 rfl) ?_
  refine wp_iconst (v := nI 1) (by decide) (ck_get kk_La_6 26 rfl) ?_
  refine wp_iaddN (ck_get kk_La_6 27 rfl) ?_
  refine wp_sald hX (ck_get kk_La_6 28 rfl) (ixk_nI (k := 6 * c + 1) (by omega) (by omega)) ?_
  refine wp_cV1i (ck_get kk_La_6 29 rfl) ml_La_70 (by omega) (Nat.le_of_ble_eq_true rfl) h.t0 (Ci.to hC ?_)
  rintro _ M2 ⟨rfl, hC2, hS2⟩
  have hM2 := h2.msame hS2
  refine wp_aload_n rfl (ck_get kk_La_6 30 rfl) ?_
  refine wp_aload_nX rfl (ck_get kk_La_6 31 rfl) ?_
  refine wp_iload_n rfl (ck_get kk_La_6 32 rfl) ?_
  refine wp_iconst (v := nI 1) (by decide) (ck_get kk_La_6 33 rfl) ?_
  refine wp_iaddN (ck_get kk_La_6 34 rfl) ?_
  refine wp_sald hX (ck_get kk_La_6 35 rfl) (ixk_nI (k := 6 * c + 1) (by omega) (by omega)) ?_
  refine wp_cV1i (ck_get kk_La_6 36 rfl) ml_La_73 (by omega) (Nat.le_of_ble_eq_true rfl) hM2.1.1 (Ci.to (hMo M2 hM2) ?_)
  rintro _ M3 ⟨rfl, hM3, hS3⟩
  exact wp_icmp_eq (t := 1361) (ck_get kk_La_6 37 rfl) (by decide) (fun _ => Kc z2 M3 hO2 (hC2.csame hS3) hM3) (fun q => absurd rfl q)
theorem lac_14 {c L : Nat} {z : ST} {xs : Nat → Int32} (hX : ScrOK g L xs) (hS : OutOK g) (hD : DgOK g) (hP : PvOK g) (h : CR c z M) (h2 : MR z M) (hO : ZOK c z) (hc : c < 512) (hl : 6 * c + 6 ≤ L) (hL : L ≤ 3072) {Q : Option Value → Mem → Prop} (Kc : ∀ z2 M2, ZOK (c + 1) z2 → CR (c + 1) z2 M2 → MR z2 M2 → Wp g (Y_La nm) 2048 1361 (laL c) [] M2 Q) : Wp g (Y_La nm) 2048 562 (laL c) [] M Q := by
  obtain ⟨x, z2, hO2, hC, hMo⟩ : ∃ (x : Int32) (z2 : ST), ZOK (c + 1) z2 ∧ CaC g Y_Mc_read [.int (xs (6 * c + 1)), .int (xs (6 * c + 2))] c M x z2 ∧ ∀ M2, MR z M2 → CaM g Y_Mo_read [.int (xs (6 * c + 1)), .int (xs (6 * c + 2))] M2 x z2 := (b_read (g := g)).two c z M hc hO h
  refine wp_aload_n rfl (ck_get kk_La_7 0 rfl) ?_
  refine wp_aload_nX rfl (ck_get kk_La_7 1 rfl) ?_
  refine wp_iload_n rfl (ck_get kk_La_7 2 rfl) ?_
  refine wp_iconst (v := nI 1) (by decide) (ck_get kk_La_7 3 rfl) ?_
  refine wp_iaddN (ck_get kk_La_7 4 rfl) ?_
  refine wp_sald hX (ck_get kk_La_7 5 rfl) (ixk_nI (k := 6 * c + 1) (by omega) (by omega)) ?_
  refine wp_aload_nX rfl (ck_get kk_La_7 6 rfl) ?_
  refine wp_iload_n rfl (ck_get kk_La_7 7 rfl) ?_
  refine wp_iconst (v := nI 2) (by decide) (ck_get kk_La_7 8 rfl) ?_
  refine wp_iaddN (ck_get kk_La_7 9 rfl) ?_
  refine wp_sald hX (ck_get kk_La_7 10 rfl) (ixk_nI (k := 6 * c + 2) (by omega) (by omega)) ?_
  refine wp_cV2i (ck_get kk_La_7 11 rfl) ml_La_74 (by omega) (Nat.le_of_ble_eq_true rfl) h.t0 (Ci.to hC ?_)
  rintro _ M2 ⟨rfl, hC2, hS2⟩
  have hM2 := h2.msame hS2
  refine wp_aload_n rfl (ck_get kk_La_7 12 rfl) ?_
  refine wp_aload_nX rfl (ck_get kk_La_7 13 rfl) ?_
  refine wp_iload_n rfl (ck_get kk_La_7 14 rfl) ?_
  refine wp_iconst (v := nI 1) (by decide) (ck_get kk_La_7 15 rfl) ?_
  refine wp_iaddN (ck_get kk_La_7 16 rfl) ?_
  refine wp_sald hX (ck_get kk_La_7 17 rfl) (ixk_nI (k := 6 * c + 1) (by omega) (by omega)) ?_
  refine wp_aload_nX rfl (ck_get kk_La_7 18 rfl) ?_
  refine wp_iload_n rfl (ck_get kk_La_7 19 rfl) ?_
  refine wp_iconst (v := nI 2) (by decide) (ck_get kk_La_7 20 rfl) ?_
  refine wp_iaddN (ck_get kk_La_7 21 rfl) ?_
  refine wp_sald hX (ck_get kk_La_7 22 rfl) (ixk_nI (k := 6 * c + 2) (by omega) (by omega)) ?_
  refine wp_cV2i (ck_get kk_La_7 23 rfl) ml_La_77 (by omega) (Nat.le_of_ble_eq_true rfl) hM2.1.1 (Ci.to (hMo M2 hM2) ?_)
  rintro _ M3 ⟨rfl, hM3, hS3⟩
  exact wp_icmp_eq (t := 1361) (ck_get kk_La_7 24 rfl) (by decide) (fun _ => Kc z2 M3 hO2 (hC2.csame hS3) hM3) (fun q => absurd rfl q)
theorem lac_15 {c L : Nat} {z : ST} {xs : Nat → Int32} (hX : ScrOK g L xs) (hS : OutOK g) (hD : DgOK g) (hP : PvOK g) (h : CR c z M) (h2 : MR z M) (hO : ZOK c z) (hc : c < 512) (hl : 6 * c + 6 ≤ L) (hL : L ≤ 3072) {Q : Option Value → Mem → Prop} (Kc : ∀ z2 M2, ZOK (c + 1) z2 → CR (c + 1) z2 M2 → MR z2 M2 → Wp g (Y_La nm) 2048 1361 (laL c) [] M2 Q) : Wp g (Y_La nm) 2048 595 (laL c) [] M Q := by
  obtain ⟨x, z2, hO2, hC, hMo⟩ : ∃ (x : Int32) (z2 : ST), ZOK (c + 1) z2 ∧ CaC g Y_Mc_loop [.int (xs (6 * c + 1)), .int (xs (6 * c + 2)), .int (xs (6 * c + 3))] c M x z2 ∧ ∀ M2, MR z M2 → CaM g Y_Mo_loop [.int (xs (6 * c + 1)), .int (xs (6 * c + 2)), .int (xs (6 * c + 3))] M2 x z2 := (b_loop (g := g)).two c z M hc hO h
  refine wp_aload_n rfl (ck_get kk_La_7 27 rfl) ?_
  refine wp_aload_nX rfl (ck_get kk_La_7 28 rfl) ?_
  refine wp_iload_n rfl (ck_get kk_La_7 29 rfl) ?_
  refine wp_iconst (v := nI 1) (by decide) (ck_get kk_La_7 30 rfl) ?_
  refine wp_iaddN (ck_get kk_La_7 31 rfl) ?_
  refine wp_sald hX (ck_get kk_La_7 32 rfl) (ixk_nI (k := 6 * c + 1) (by omega) (by omega)) ?_
  refine wp_aload_nX rfl (ck_get kk_La_7 33 rfl) ?_
  refine wp_iload_n rfl (ck_get kk_La_7 34 rfl) ?_
  refine wp_iconst (v := nI 2) (by decide) (ck_get kk_La_7 35 rfl) ?_
  refine wp_iaddN (ck_get kk_La_7 36 rfl) ?_
  refine wp_sald hX (ck_get kk_La_7 37 rfl) (ixk_nI (k := 6 * c + 2) (by omega) (by omega)) ?_
  refine wp_aload_nX rfl (ck_get kk_La_7 38 rfl) ?_
  refine wp_iload_n rfl (ck_get kk_La_7 39 rfl) ?_
  refine wp_iconst (v := nI 3) (by decide) (ck_get kk_La_8 0 rfl) ?_
  refine wp_iaddN (ck_get kk_La_8 1 rfl) ?_
  refine wp_sald hX (ck_get kk_La_8 2 rfl) (ixk_nI (k := 6 * c + 3) (by omega) (by omega)) ?_
  refine wp_cV3i (ck_get kk_La_8 3 rfl) ml_La_78 (by omega) (Nat.le_of_ble_eq_true rfl) h.t0 (Ci.to hC ?_)
  rintro _ M2 ⟨rfl, hC2, hS2⟩
  have hM2 := h2.msame hS2
  refine wp_aload_n rfl (ck_get kk_La_8 4 rfl) ?_
  refine wp_aload_nX rfl (ck_get kk_La_8 5 rfl) ?_
  refine wp_iload_n rfl (ck_get kk_La_8 6 rfl) ?_
  refine wp_iconst (v := nI 1) (by decide) (ck_get kk_La_8 7 rfl) ?_
  refine wp_iaddN (ck_get kk_La_8 8 rfl) ?_
  refine wp_sald hX (ck_get kk_La_8 9 rfl) (ixk_nI (k := 6 * c + 1) (by omega) (by omega)) ?_
  refine wp_aload_nX rfl (ck_get kk_La_8 10 rfl) ?_
  refine wp_iload_n rfl (ck_get kk_La_8 11 rfl) ?_
  refine wp_iconst (v := nI 2) (by decide) (ck_get kk_La_8 12 rfl) ?_
  refine wp_iaddN (ck_get kk_La_8 13 rfl) ?_
  refine wp_sald hX (ck_get kk_La_8 14 rfl) (ixk_nI (k := 6 * c + 2) (by omega) (by omega)) ?_
  refine wp_aload_nX rfl (ck_get kk_La_8 15 rfl) ?_
  refine wp_iload_n rfl (ck_get kk_La_8 16 rfl) ?_
  refine wp_iconst (v := nI 3) (by decide) (ck_get kk_La_8 17 rfl) ?_
  refine wp_iaddN (ck_get kk_La_8 18 rfl) ?_
  refine wp_sald hX (ck_get kk_La_8 19 rfl) (ixk_nI (k := 6 * c + 3) (by omega) (by omega)) ?_
  refine wp_cV3i (ck_get kk_La_8 20 rfl) ml_La_81 (by omega) (Nat.le_of_ble_eq_true rfl) hM2.1.1 (Ci.to (hMo M2 hM2) ?_)
  rintro _ M3 ⟨rfl, hM3, hS3⟩
  exact wp_icmp_eq (t := 1361) (ck_get kk_La_8 21 rfl) (by decide) (fun _ => Kc z2 M3 hO2 (hC2.csame hS3) hM3) (fun q => absurd rfl q)
theorem lac_16 {c L : Nat} {z : ST} {xs : Nat → Int32} (hX : ScrOK g L xs) (hS : OutOK g) (hD : DgOK g) (hP : PvOK g) (h : CR c z M) (h2 : MR z M) (hO : ZOK c z) (hc : c < 512) (hl : 6 * c + 6 ≤ L) (hL : L ≤ 3072) {Q : Option Value → Mem → Prop} (Kc : ∀ z2 M2, ZOK (c + 1) z2 → CR (c + 1) z2 M2 → MR z2 M2 → Wp g (Y_La nm) 2048 1361 (laL c) [] M2 Q) : Wp g (Y_La nm) 2048 638 (laL c) [] M Q := by
  obtain ⟨x, z2, hO2, hC, hMo⟩ : ∃ (x : Int32) (z2 : ST), ZOK (c + 1) z2 ∧ CaC g Y_Mc_drop [.int (xs (6 * c + 1)), .int (xs (6 * c + 2))] c M x z2 ∧ ∀ M2, MR z M2 → CaM g Y_Mo_drop [.int (xs (6 * c + 1)), .int (xs (6 * c + 2))] M2 x z2 := (b_drop (g := g)).two c z M hc hO h
  refine wp_aload_n rfl (ck_get kk_La_8 24 rfl) ?_
  refine wp_aload_nX rfl (ck_get kk_La_8 25 rfl) ?_
  refine wp_iload_n rfl (ck_get kk_La_8 26 rfl) ?_
  refine wp_iconst (v := nI 1) (by decide) (ck_get kk_La_8 27 rfl) ?_
  refine wp_iaddN (ck_get kk_La_8 28 rfl) ?_
  refine wp_sald hX (ck_get kk_La_8 29 rfl) (ixk_nI (k := 6 * c + 1) (by omega) (by omega)) ?_
  refine wp_aload_nX rfl (ck_get kk_La_8 30 rfl) ?_
  refine wp_iload_n rfl (ck_get kk_La_8 31 rfl) ?_
  refine wp_iconst (v := nI 2) (by decide) (ck_get kk_La_8 32 rfl) ?_
  refine wp_iaddN (ck_get kk_La_8 33 rfl) ?_
  refine wp_sald hX (ck_get kk_La_8 34 rfl) (ixk_nI (k := 6 * c + 2) (by omega) (by omega)) ?_
  refine wp_cV2i (ck_get kk_La_8 35 rfl) ml_La_82 (by omega) (Nat.le_of_ble_eq_true rfl) h.t0 (Ci.to hC ?_)
  rintro _ M2 ⟨rfl, hC2, hS2⟩
  have hM2 := h2.msame hS2
  refine wp_aload_n rfl (ck_get kk_La_8 36 rfl) ?_
  refine wp_aload_nX rfl (ck_get kk_La_8 37 rfl) ?_
  refine wp_iload_n rfl (ck_get kk_La_8 38 rfl) ?_
  refine wp_iconst (v := nI 1) (by decide) (ck_get kk_La_8 39 rfl) ?_
  refine wp_iaddN (ck_get kk_La_9 0 rfl) ?_
  refine wp_sald hX (ck_get kk_La_9 1 rfl) (ixk_nI (k := 6 * c + 1) (by omega) (by omega)) ?_
  refine wp_aload_nX rfl (ck_get kk_La_9 2 rfl) ?_
  refine wp_iload_n rfl (ck_get kk_La_9 3 rfl) ?_
  refine wp_iconst (v := nI 2) (by decide) (ck_get kk_La_9 4 rfl) ?_
  refine wp_iaddN (ck_get kk_La_9 5 rfl) ?_
  refine wp_sald hX (ck_get kk_La_9 6 rfl) (ixk_nI (k := 6 * c + 2) (by omega) (by omega)) ?_
  refine wp_cV2i (ck_get kk_La_9 7 rfl) ml_La_85 (by omega) (Nat.le_of_ble_eq_true rfl) hM2.1.1 (Ci.to (hMo M2 hM2) ?_)
  rintro _ M3 ⟨rfl, hM3, hS3⟩
  exact wp_icmp_eq (t := 1361) (ck_get kk_La_9 8 rfl) (by decide) (fun _ => Kc z2 M3 hO2 (hC2.csame hS3) hM3) (fun q => absurd rfl q)
theorem lac_17 {c L : Nat} {z : ST} {xs : Nat → Int32} (hX : ScrOK g L xs) (hS : OutOK g) (hD : DgOK g) (hP : PvOK g) (h : CR c z M) (h2 : MR z M) (hO : ZOK c z) (hc : c < 512) (hl : 6 * c + 6 ≤ L) (hL : L ≤ 3072) {Q : Option Value → Mem → Prop} (Kc : ∀ z2 M2, ZOK (c + 1) z2 → CR (c + 1) z2 M2 → MR z2 M2 → Wp g (Y_La nm) 2048 1361 (laL c) [] M2 Q) : Wp g (Y_La nm) 2048 671 (laL c) [] M Q := by
  obtain ⟨x, z2, hO2, hC, hMo⟩ : ∃ (x : Int32) (z2 : ST), ZOK (c + 1) z2 ∧ CaC g Y_Mc_pass [] c M x z2 ∧ ∀ M2, MR z M2 → CaM g Y_Mo_pass [] M2 x z2 := (b_pass (g := g)).two c z M hc hO h
  refine wp_aload_n rfl (ck_get kk_La_9 11 rfl) ?_
  refine wp_cV0i (ck_get kk_La_9 12 rfl) ml_La_86 (by omega) (Nat.le_of_ble_eq_true rfl) h.t0 (Ci.to hC ?_)
  rintro _ M2 ⟨rfl, hC2, hS2⟩
  have hM2 := h2.msame hS2
  refine wp_aload_n rfl (ck_get kk_La_9 13 rfl) ?_
  refine wp_cV0i (ck_get kk_La_9 14 rfl) ml_La_89 (by omega) (Nat.le_of_ble_eq_true rfl) hM2.1.1 (Ci.to (hMo M2 hM2) ?_)
  rintro _ M3 ⟨rfl, hM3, hS3⟩
  exact wp_icmp_eq (t := 1361) (ck_get kk_La_9 15 rfl) (by decide) (fun _ => Kc z2 M3 hO2 (hC2.csame hS3) hM3) (fun q => absurd rfl q)
theorem lac_18 {c L : Nat} {z : ST} {xs : Nat → Int32} (hX : ScrOK g L xs) (hS : OutOK g) (hD : DgOK g) (hP : PvOK g) (h : CR c z M) (h2 : MR z M) (hO : ZOK c z) (hc : c < 512) (hl : 6 * c + 6 ≤ L) (hL : L ≤ 3072) {Q : Option Value → Mem → Prop} (Kc : ∀ z2 M2, ZOK (c + 1) z2 → CR (c + 1) z2 M2 → MR z2 M2 → Wp g (Y_La nm) 2048 1361 (laL c) [] M2 Q) : Wp g (Y_La nm) 2048 684 (laL c) [] M Q := by
  obtain ⟨x, z2, hO2, hC, hMo⟩ : ∃ (x : Int32) (z2 : ST), ZOK (c + 1) z2 ∧ CaC g Y_Mc_undo [] c M x z2 ∧ ∀ M2, MR z M2 → CaM g Y_Mo_undo [] M2 x z2 := (b_undo (g := g)).two c z M hc hO h
  refine wp_aload_n rfl (ck_get kk_La_9 18 rfl) ?_
  refine wp_cV0i (ck_get kk_La_9 19 rfl) ml_La_90 (by omega) (Nat.le_of_ble_eq_true rfl) h.t0 (Ci.to hC ?_)
  rintro _ M2 ⟨rfl, hC2, hS2⟩
  have hM2 := h2.msame hS2
  refine wp_aload_n rfl (ck_get kk_La_9 20 rfl) ?_
  refine wp_cV0i (ck_get kk_La_9 21 rfl) ml_La_93 (by omega) (Nat.le_of_ble_eq_true rfl) hM2.1.1 (Ci.to (hMo M2 hM2) ?_)
  rintro _ M3 ⟨rfl, hM3, hS3⟩
  exact wp_icmp_eq (t := 1361) (ck_get kk_La_9 22 rfl) (by decide) (fun _ => Kc z2 M3 hO2 (hC2.csame hS3) hM3) (fun q => absurd rfl q)
theorem lac_19 {c L : Nat} {z : ST} {xs : Nat → Int32} (hX : ScrOK g L xs) (hS : OutOK g) (hD : DgOK g) (hP : PvOK g) (h : CR c z M) (h2 : MR z M) (hO : ZOK c z) (hc : c < 512) (hl : 6 * c + 6 ≤ L) (hL : L ≤ 3072) {Q : Option Value → Mem → Prop} (Kc : ∀ z2 M2, ZOK (c + 1) z2 → CR (c + 1) z2 M2 → MR z2 M2 → Wp g (Y_La nm) 2048 1361 (laL c) [] M2 Q) : Wp g (Y_La nm) 2048 697 (laL c) [] M Q := by
  obtain ⟨x, z2, hO2, hC, hMo⟩ : ∃ (x : Int32) (z2 : ST), ZOK (c + 1) z2 ∧ CaC g Y_Mc_misses [.int (xs (6 * c + 1)), .int (xs (6 * c + 2))] c M x z2 ∧ ∀ M2, MR z M2 → CaM g Y_Mo_misses [.int (xs (6 * c + 1)), .int (xs (6 * c + 2))] M2 x z2 := (b_misses (g := g)).two c z M hc hO h
  refine wp_aload_n rfl (ck_get kk_La_9 25 rfl) ?_
  refine wp_aload_nX rfl (ck_get kk_La_9 26 rfl) ?_
  refine wp_iload_n rfl (ck_get kk_La_9 27 rfl) ?_
  refine wp_iconst (v := nI 1) (by decide) (ck_get kk_La_9 28 rfl) ?_
  refine wp_iaddN (ck_get kk_La_9 29 rfl) ?_
  refine wp_sald hX (ck_get kk_La_9 30 rfl) (ixk_nI (k := 6 * c + 1) (by omega) (by omega)) ?_
  refine wp_aload_nX rfl (ck_get kk_La_9 31 rfl) ?_
  refine wp_iload_n rfl (ck_get kk_La_9 32 rfl) ?_
  refine wp_iconst (v := nI 2) (by decide) (ck_get kk_La_9 33 rfl) ?_
  refine wp_iaddN (ck_get kk_La_9 34 rfl) ?_
  refine wp_sald hX (ck_get kk_La_9 35 rfl) (ixk_nI (k := 6 * c + 2) (by omega) (by omega)) ?_
  refine wp_cV2i (ck_get kk_La_9 36 rfl) ml_La_94 (by omega) (Nat.le_of_ble_eq_true rfl) h.t0 (Ci.to hC ?_)
  rintro _ M2 ⟨rfl, hC2, hS2⟩
  have hM2 := h2.msame hS2
  refine wp_aload_n rfl (ck_get kk_La_9 37 rfl) ?_
  refine wp_aload_nX rfl (ck_get kk_La_9 38 rfl) ?_
  refine wp_iload_n rfl (ck_get kk_La_9 39 rfl) ?_
  refine wp_iconst (v := nI 1) (by decide) (ck_get kk_La_10 0 rfl) ?_
  refine wp_iaddN (ck_get kk_La_10 1 rfl) ?_
  refine wp_sald hX (ck_get kk_La_10 2 rfl) (ixk_nI (k := 6 * c + 1) (by omega) (by omega)) ?_
  refine wp_aload_nX rfl (ck_get kk_La_10 3 rfl) ?_
  refine wp_iload_n rfl (ck_get kk_La_10 4 rfl) ?_
  refine wp_iconst (v := nI 2) (by decide) (ck_get kk_La_10 5 rfl) ?_
  refine wp_iaddN (ck_get kk_La_10 6 rfl) ?_
  refine wp_sald hX (ck_get kk_La_10 7 rfl) (ixk_nI (k := 6 * c + 2) (by omega) (by omega)) ?_
  refine wp_cV2i (ck_get kk_La_10 8 rfl) ml_La_97 (by omega) (Nat.le_of_ble_eq_true rfl) hM2.1.1 (Ci.to (hMo M2 hM2) ?_)
  rintro _ M3 ⟨rfl, hM3, hS3⟩
  exact wp_icmp_eq (t := 1361) (ck_get kk_La_10 9 rfl) (by decide) (fun _ => Kc z2 M3 hO2 (hC2.csame hS3) hM3) (fun q => absurd rfl q)
theorem lac_20 {c L : Nat} {z : ST} {xs : Nat → Int32} (hX : ScrOK g L xs) (hS : OutOK g) (hD : DgOK g) (hP : PvOK g) (h : CR c z M) (h2 : MR z M) (hO : ZOK c z) (hc : c < 512) (hl : 6 * c + 6 ≤ L) (hL : L ≤ 3072) {Q : Option Value → Mem → Prop} (Kc : ∀ z2 M2, ZOK (c + 1) z2 → CR (c + 1) z2 M2 → MR z2 M2 → Wp g (Y_La nm) 2048 1361 (laL c) [] M2 Q) : Wp g (Y_La nm) 2048 730 (laL c) [] M Q := by
  obtain ⟨x, hC, hMo⟩ : ∃ (x : Int64), (∀ M, CR c z M → Cl g Y_Mc_hull 300 (.ref 0 :: [.int (xs (6 * c + 1)), .int (xs (6 * c + 2))]) M (fun y M2 => y = x ∧ CR (c + 1) z M2 ∧ MSame M M2)) ∧ ∀ M, MR z M → Cl g Y_Mo_hull 300 (.ref 1020 :: [.int (xs (6 * c + 1)), .int (xs (6 * c + 2))]) M (fun y M2 => y = x ∧ MR z M2 ∧ CSame M M2) := b_hull c z hc hO
  refine wp_aload_n rfl (ck_get kk_La_10 12 rfl) ?_
  refine wp_aload_nX rfl (ck_get kk_La_10 13 rfl) ?_
  refine wp_iload_n rfl (ck_get kk_La_10 14 rfl) ?_
  refine wp_iconst (v := nI 1) (by decide) (ck_get kk_La_10 15 rfl) ?_
  refine wp_iaddN (ck_get kk_La_10 16 rfl) ?_
  refine wp_sald hX (ck_get kk_La_10 17 rfl) (ixk_nI (k := 6 * c + 1) (by omega) (by omega)) ?_
  refine wp_aload_nX rfl (ck_get kk_La_10 18 rfl) ?_
  refine wp_iload_n rfl (ck_get kk_La_10 19 rfl) ?_
  refine wp_iconst (v := nI 2) (by decide) (ck_get kk_La_10 20 rfl) ?_
  refine wp_iaddN (ck_get kk_La_10 21 rfl) ?_
  refine wp_sald hX (ck_get kk_La_10 22 rfl) (ixk_nI (k := 6 * c + 2) (by omega) (by omega)) ?_
  refine wp_cV2l (ck_get kk_La_10 23 rfl) ml_La_98 (by omega) (Nat.le_of_ble_eq_true rfl) h.t0 (Cl.to (hC M h) ?_)
  rintro _ M2 ⟨rfl, hC2, hS2⟩
  have hM2 := h2.msame hS2
  refine wp_aload_n rfl (ck_get kk_La_10 24 rfl) ?_
  refine wp_aload_nX rfl (ck_get kk_La_10 25 rfl) ?_
  refine wp_iload_n rfl (ck_get kk_La_10 26 rfl) ?_
  refine wp_iconst (v := nI 1) (by decide) (ck_get kk_La_10 27 rfl) ?_
  refine wp_iaddN (ck_get kk_La_10 28 rfl) ?_
  refine wp_sald hX (ck_get kk_La_10 29 rfl) (ixk_nI (k := 6 * c + 1) (by omega) (by omega)) ?_
  refine wp_aload_nX rfl (ck_get kk_La_10 30 rfl) ?_
  refine wp_iload_n rfl (ck_get kk_La_10 31 rfl) ?_
  refine wp_iconst (v := nI 2) (by decide) (ck_get kk_La_10 32 rfl) ?_
  refine wp_iaddN (ck_get kk_La_10 33 rfl) ?_
  refine wp_sald hX (ck_get kk_La_10 34 rfl) (ixk_nI (k := 6 * c + 2) (by omega) (by omega)) ?_
  refine wp_cV2l (ck_get kk_La_10 35 rfl) ml_La_102 (by omega) (Nat.le_of_ble_eq_true rfl) hM2.1.1 (Cl.to (hMo M2 hM2) ?_)
  rintro _ M3 ⟨rfl, hM3, hS3⟩
  refine wp_lcmp (ck_get kk_La_10 36 rfl) ?_
  exact wp_if_eq (t := 1361) (ck_get kk_La_10 37 rfl) (by decide) (fun _ => Kc z M3 (hO.le (Nat.le_succ c)) (hC2.csame hS3) hM3) (fun q => absurd ((lcmp_eq _ _).mpr rfl) q)
theorem lac_21 {c L : Nat} {z : ST} {xs : Nat → Int32} (hX : ScrOK g L xs) (hS : OutOK g) (hD : DgOK g) (hP : PvOK g) (h : CR c z M) (h2 : MR z M) (hO : ZOK c z) (hc : c < 512) (hl : 6 * c + 6 ≤ L) (hL : L ≤ 3072) {Q : Option Value → Mem → Prop} (Kc : ∀ z2 M2, ZOK (c + 1) z2 → CR (c + 1) z2 M2 → MR z2 M2 → Wp g (Y_La nm) 2048 1361 (laL c) [] M2 Q) : Wp g (Y_La nm) 2048 764 (laL c) [] M Q := by
  obtain ⟨x, z2, hO2, hC, hMo⟩ : ∃ (x : Int32) (z2 : ST), ZOK (c + 1) z2 ∧ CaC g Y_Mc_bend [.int (xs (6 * c + 1)), .int (xs (6 * c + 2))] c M x z2 ∧ ∀ M2, MR z M2 → CaM g Y_Mo_bend [.int (xs (6 * c + 1)), .int (xs (6 * c + 2))] M2 x z2 := (b_bend (g := g)).two c z M hc hO h
  refine wp_aload_n rfl (ck_get kk_La_11 0 rfl) ?_
  refine wp_aload_nX rfl (ck_get kk_La_11 1 rfl) ?_
  refine wp_iload_n rfl (ck_get kk_La_11 2 rfl) ?_
  refine wp_iconst (v := nI 1) (by decide) (ck_get kk_La_11 3 rfl) ?_
  refine wp_iaddN (ck_get kk_La_11 4 rfl) ?_
  refine wp_sald hX (ck_get kk_La_11 5 rfl) (ixk_nI (k := 6 * c + 1) (by omega) (by omega)) ?_
  refine wp_aload_nX rfl (ck_get kk_La_11 6 rfl) ?_
  refine wp_iload_n rfl (ck_get kk_La_11 7 rfl) ?_
  refine wp_iconst (v := nI 2) (by decide) (ck_get kk_La_11 8 rfl) ?_
  refine wp_iaddN (ck_get kk_La_11 9 rfl) ?_
  refine wp_sald hX (ck_get kk_La_11 10 rfl) (ixk_nI (k := 6 * c + 2) (by omega) (by omega)) ?_
  refine wp_cV2i (ck_get kk_La_11 11 rfl) ml_La_103 (by omega) (Nat.le_of_ble_eq_true rfl) h.t0 (Ci.to hC ?_)
  rintro _ M2 ⟨rfl, hC2, hS2⟩
  have hM2 := h2.msame hS2
  refine wp_aload_n rfl (ck_get kk_La_11 12 rfl) ?_
  refine wp_aload_nX rfl (ck_get kk_La_11 13 rfl) ?_
  refine wp_iload_n rfl (ck_get kk_La_11 14 rfl) ?_
  refine wp_iconst (v := nI 1) (by decide) (ck_get kk_La_11 15 rfl) ?_
  refine wp_iaddN (ck_get kk_La_11 16 rfl) ?_
  refine wp_sald hX (ck_get kk_La_11 17 rfl) (ixk_nI (k := 6 * c + 1) (by omega) (by omega)) ?_
  refine wp_aload_nX rfl (ck_get kk_La_11 18 rfl) ?_
  refine wp_iload_n rfl (ck_get kk_La_11 19 rfl) ?_
  refine wp_iconst (v := nI 2) (by decide) (ck_get kk_La_11 20 rfl) ?_
  refine wp_iaddN (ck_get kk_La_11 21 rfl) ?_
  refine wp_sald hX (ck_get kk_La_11 22 rfl) (ixk_nI (k := 6 * c + 2) (by omega) (by omega)) ?_
  refine wp_cV2i (ck_get kk_La_11 23 rfl) ml_La_106 (by omega) (Nat.le_of_ble_eq_true rfl) hM2.1.1 (Ci.to (hMo M2 hM2) ?_)
  rintro _ M3 ⟨rfl, hM3, hS3⟩
  exact wp_icmp_eq (t := 1361) (ck_get kk_La_11 24 rfl) (by decide) (fun _ => Kc z2 M3 hO2 (hC2.csame hS3) hM3) (fun q => absurd rfl q)
theorem lac_22 {c L : Nat} {z : ST} {xs : Nat → Int32} (hX : ScrOK g L xs) (hS : OutOK g) (hD : DgOK g) (hP : PvOK g) (h : CR c z M) (h2 : MR z M) (hO : ZOK c z) (hc : c < 512) (hl : 6 * c + 6 ≤ L) (hL : L ≤ 3072) {Q : Option Value → Mem → Prop} (Kc : ∀ z2 M2, ZOK (c + 1) z2 → CR (c + 1) z2 M2 → MR z2 M2 → Wp g (Y_La nm) 2048 1361 (laL c) [] M2 Q) : Wp g (Y_La nm) 2048 797 (laL c) [] M Q := by
  obtain ⟨x, z2, hO2, hC, hMo⟩ : ∃ (x : Int32) (z2 : ST), ZOK (c + 1) z2 ∧ CaC g Y_Mc_report [.int (xs (6 * c + 1))] c M x z2 ∧ ∀ M2, MR z M2 → CaM g Y_Mo_report [.int (xs (6 * c + 1))] M2 x z2 := (b_report hP hS.1 hD).two c z M hc hO h
  refine wp_aload_n rfl (ck_get kk_La_11 27 rfl) ?_
  refine wp_aload_nX rfl (ck_get kk_La_11 28 rfl) ?_
  refine wp_iload_n rfl (ck_get kk_La_11 29 rfl) ?_
  refine wp_iconst (v := nI 1) (by decide) (ck_get kk_La_11 30 rfl) ?_
  refine wp_iaddN (ck_get kk_La_11 31 rfl) ?_
  refine wp_sald hX (ck_get kk_La_11 32 rfl) (ixk_nI (k := 6 * c + 1) (by omega) (by omega)) ?_
  refine wp_cV1i (ck_get kk_La_11 33 rfl) ml_La_107 (by omega) (Nat.le_of_ble_eq_true rfl) h.t0 (Ci.to hC ?_)
  rintro _ M2 ⟨rfl, hC2, hS2⟩
  have hM2 := h2.msame hS2
  refine wp_aload_n rfl (ck_get kk_La_11 34 rfl) ?_
  refine wp_aload_nX rfl (ck_get kk_La_11 35 rfl) ?_
  refine wp_iload_n rfl (ck_get kk_La_11 36 rfl) ?_
  refine wp_iconst (v := nI 1) (by decide) (ck_get kk_La_11 37 rfl) ?_
  refine wp_iaddN (ck_get kk_La_11 38 rfl) ?_
  refine wp_sald hX (ck_get kk_La_11 39 rfl) (ixk_nI (k := 6 * c + 1) (by omega) (by omega)) ?_
  refine wp_cV1i (ck_get kk_La_12 0 rfl) ml_La_110 (by omega) (Nat.le_of_ble_eq_true rfl) hM2.1.1 (Ci.to (hMo M2 hM2) ?_)
  rintro _ M3 ⟨rfl, hM3, hS3⟩
  exact wp_icmp_eq (t := 1361) (ck_get kk_La_12 1 rfl) (by decide) (fun _ => Kc z2 M3 hO2 (hC2.csame hS3) hM3) (fun q => absurd rfl q)
theorem lac_23 {c L : Nat} {z : ST} {xs : Nat → Int32} (hX : ScrOK g L xs) (hS : OutOK g) (hD : DgOK g) (hP : PvOK g) (h : CR c z M) (h2 : MR z M) (hO : ZOK c z) (hc : c < 512) (hl : 6 * c + 6 ≤ L) (hL : L ≤ 3072) {Q : Option Value → Mem → Prop} (Kc : ∀ z2 M2, ZOK (c + 1) z2 → CR (c + 1) z2 M2 → MR z2 M2 → Wp g (Y_La nm) 2048 1361 (laL c) [] M2 Q) : Wp g (Y_La nm) 2048 820 (laL c) [] M Q := by
  obtain ⟨fv, hv⟩ := hS.2
  obtain ⟨x, z2, hO2, hC, hMo⟩ : ∃ (x : Int32) (z2 : ST), ZOK (c + 1) z2 ∧ CaC g Y_Mc_sign [.int (xs (6 * c + 1))] c M x z2 ∧ ∀ M2, MR z M2 → CaM g Y_Mo_sign [.int (xs (6 * c + 1))] M2 x z2 := (b_sign hv).two c z M hc hO h
  refine wp_aload_n rfl (ck_get kk_La_12 4 rfl) ?_
  refine wp_aload_nX rfl (ck_get kk_La_12 5 rfl) ?_
  refine wp_iload_n rfl (ck_get kk_La_12 6 rfl) ?_
  refine wp_iconst (v := nI 1) (by decide) (ck_get kk_La_12 7 rfl) ?_
  refine wp_iaddN (ck_get kk_La_12 8 rfl) ?_
  refine wp_sald hX (ck_get kk_La_12 9 rfl) (ixk_nI (k := 6 * c + 1) (by omega) (by omega)) ?_
  refine wp_cV1i (ck_get kk_La_12 10 rfl) ml_La_111 (by omega) (Nat.le_of_ble_eq_true rfl) h.t0 (Ci.to hC ?_)
  rintro _ M2 ⟨rfl, hC2, hS2⟩
  have hM2 := h2.msame hS2
  refine wp_aload_n rfl (ck_get kk_La_12 11 rfl) ?_
  refine wp_aload_nX rfl (ck_get kk_La_12 12 rfl) ?_
  refine wp_iload_n rfl (ck_get kk_La_12 13 rfl) ?_
  refine wp_iconst (v := nI 1) (by decide) (ck_get kk_La_12 14 rfl) ?_
  refine wp_iaddN (ck_get kk_La_12 15 rfl) ?_
  refine wp_sald hX (ck_get kk_La_12 16 rfl) (ixk_nI (k := 6 * c + 1) (by omega) (by omega)) ?_
  refine wp_cV1i (ck_get kk_La_12 17 rfl) ml_La_114 (by omega) (Nat.le_of_ble_eq_true rfl) hM2.1.1 (Ci.to (hMo M2 hM2) ?_)
  rintro _ M3 ⟨rfl, hM3, hS3⟩
  exact wp_icmp_eq (t := 1361) (ck_get kk_La_12 18 rfl) (by decide) (fun _ => Kc z2 M3 hO2 (hC2.csame hS3) hM3) (fun q => absurd rfl q)
theorem lac_24 {c L : Nat} {z : ST} {xs : Nat → Int32} (hX : ScrOK g L xs) (hS : OutOK g) (hD : DgOK g) (hP : PvOK g) (h : CR c z M) (h2 : MR z M) (hO : ZOK c z) (hc : c < 512) (hl : 6 * c + 6 ≤ L) (hL : L ≤ 3072) {Q : Option Value → Mem → Prop} (Kc : ∀ z2 M2, ZOK (c + 1) z2 → CR (c + 1) z2 M2 → MR z2 M2 → Wp g (Y_La nm) 2048 1361 (laL c) [] M2 Q) : Wp g (Y_La nm) 2048 843 (laL c) [] M Q := by
  obtain ⟨x, z2, hO2, hC, hMo⟩ : ∃ (x : Int32) (z2 : ST), ZOK (c + 1) z2 ∧ CaC g Y_Mc_guess [.int (xs (6 * c + 1)), .int (xs (6 * c + 2))] c M x z2 ∧ ∀ M2, MR z M2 → CaM g Y_Mo_guess [.int (xs (6 * c + 1)), .int (xs (6 * c + 2))] M2 x z2 := (b_guess (g := g)).two c z M hc hO h
  refine wp_aload_n rfl (ck_get kk_La_12 21 rfl) ?_
  refine wp_aload_nX rfl (ck_get kk_La_12 22 rfl) ?_
  refine wp_iload_n rfl (ck_get kk_La_12 23 rfl) ?_
  refine wp_iconst (v := nI 1) (by decide) (ck_get kk_La_12 24 rfl) ?_
  refine wp_iaddN (ck_get kk_La_12 25 rfl) ?_
  refine wp_sald hX (ck_get kk_La_12 26 rfl) (ixk_nI (k := 6 * c + 1) (by omega) (by omega)) ?_
  refine wp_aload_nX rfl (ck_get kk_La_12 27 rfl) ?_
  refine wp_iload_n rfl (ck_get kk_La_12 28 rfl) ?_
  refine wp_iconst (v := nI 2) (by decide) (ck_get kk_La_12 29 rfl) ?_
  refine wp_iaddN (ck_get kk_La_12 30 rfl) ?_
  refine wp_sald hX (ck_get kk_La_12 31 rfl) (ixk_nI (k := 6 * c + 2) (by omega) (by omega)) ?_
  refine wp_cV2i (ck_get kk_La_12 32 rfl) ml_La_115 (by omega) (Nat.le_of_ble_eq_true rfl) h.t0 (Ci.to hC ?_)
  rintro _ M2 ⟨rfl, hC2, hS2⟩
  have hM2 := h2.msame hS2
  refine wp_aload_n rfl (ck_get kk_La_12 33 rfl) ?_
  refine wp_aload_nX rfl (ck_get kk_La_12 34 rfl) ?_
  refine wp_iload_n rfl (ck_get kk_La_12 35 rfl) ?_
  refine wp_iconst (v := nI 1) (by decide) (ck_get kk_La_12 36 rfl) ?_
  refine wp_iaddN (ck_get kk_La_12 37 rfl) ?_
  refine wp_sald hX (ck_get kk_La_12 38 rfl) (ixk_nI (k := 6 * c + 1) (by omega) (by omega)) ?_
  refine wp_aload_nX rfl (ck_get kk_La_12 39 rfl) ?_
  refine wp_iload_n rfl (ck_get kk_La_13 0 rfl) ?_
  refine wp_iconst (v := nI 2) (by decide) (ck_get kk_La_13 1 rfl) ?_
  refine wp_iaddN (ck_get kk_La_13 2 rfl) ?_
  refine wp_sald hX (ck_get kk_La_13 3 rfl) (ixk_nI (k := 6 * c + 2) (by omega) (by omega)) ?_
  refine wp_cV2i (ck_get kk_La_13 4 rfl) ml_La_118 (by omega) (Nat.le_of_ble_eq_true rfl) hM2.1.1 (Ci.to (hMo M2 hM2) ?_)
  rintro _ M3 ⟨rfl, hM3, hS3⟩
  exact wp_icmp_eq (t := 1361) (ck_get kk_La_13 5 rfl) (by decide) (fun _ => Kc z2 M3 hO2 (hC2.csame hS3) hM3) (fun q => absurd rfl q)
theorem lac_25 {c L : Nat} {z : ST} {xs : Nat → Int32} (hX : ScrOK g L xs) (hS : OutOK g) (hD : DgOK g) (hP : PvOK g) (h : CR c z M) (h2 : MR z M) (hO : ZOK c z) (hc : c < 512) (hl : 6 * c + 6 ≤ L) (hL : L ≤ 3072) {Q : Option Value → Mem → Prop} (Kc : ∀ z2 M2, ZOK (c + 1) z2 → CR (c + 1) z2 M2 → MR z2 M2 → Wp g (Y_La nm) 2048 1361 (laL c) [] M2 Q) : Wp g (Y_La nm) 2048 876 (laL c) [] M Q := by
  obtain ⟨x, z2, hO2, hC, hMo⟩ : ∃ (x : Int32) (z2 : ST), ZOK (c + 1) z2 ∧ CaC g Y_Mc_salted [.int (xs (6 * c + 1)), .int (xs (6 * c + 2))] c M x z2 ∧ ∀ M2, MR z M2 → CaM g Y_Mo_salted [.int (xs (6 * c + 1)), .int (xs (6 * c + 2))] M2 x z2 := (b_salted (g := g)).two c z M hc hO h
  refine wp_aload_n rfl (ck_get kk_La_13 8 rfl) ?_
  refine wp_aload_nX rfl (ck_get kk_La_13 9 rfl) ?_
  refine wp_iload_n rfl (ck_get kk_La_13 10 rfl) ?_
  refine wp_iconst (v := nI 1) (by decide) (ck_get kk_La_13 11 rfl) ?_
  refine wp_iaddN (ck_get kk_La_13 12 rfl) ?_
  refine wp_sald hX (ck_get kk_La_13 13 rfl) (ixk_nI (k := 6 * c + 1) (by omega) (by omega)) ?_
  refine wp_aload_nX rfl (ck_get kk_La_13 14 rfl) ?_
  refine wp_iload_n rfl (ck_get kk_La_13 15 rfl) ?_
  refine wp_iconst (v := nI 2) (by decide) (ck_get kk_La_13 16 rfl) ?_
  refine wp_iaddN (ck_get kk_La_13 17 rfl) ?_
  refine wp_sald hX (ck_get kk_La_13 18 rfl) (ixk_nI (k := 6 * c + 2) (by omega) (by omega)) ?_
  refine wp_cV2i (ck_get kk_La_13 19 rfl) ml_La_119 (by omega) (Nat.le_of_ble_eq_true rfl) h.t0 (Ci.to hC ?_)
  rintro _ M2 ⟨rfl, hC2, hS2⟩
  have hM2 := h2.msame hS2
  refine wp_aload_n rfl (ck_get kk_La_13 20 rfl) ?_
  refine wp_aload_nX rfl (ck_get kk_La_13 21 rfl) ?_
  refine wp_iload_n rfl (ck_get kk_La_13 22 rfl) ?_
  refine wp_iconst (v := nI 1) (by decide) (ck_get kk_La_13 23 rfl) ?_
  refine wp_iaddN (ck_get kk_La_13 24 rfl) ?_
  refine wp_sald hX (ck_get kk_La_13 25 rfl) (ixk_nI (k := 6 * c + 1) (by omega) (by omega)) ?_
  refine wp_aload_nX rfl (ck_get kk_La_13 26 rfl) ?_
  refine wp_iload_n rfl (ck_get kk_La_13 27 rfl) ?_
  refine wp_iconst (v := nI 2) (by decide) (ck_get kk_La_13 28 rfl) ?_
  refine wp_iaddN (ck_get kk_La_13 29 rfl) ?_
  refine wp_sald hX (ck_get kk_La_13 30 rfl) (ixk_nI (k := 6 * c + 2) (by omega) (by omega)) ?_
  refine wp_cV2i (ck_get kk_La_13 31 rfl) ml_La_122 (by omega) (Nat.le_of_ble_eq_true rfl) hM2.1.1 (Ci.to (hMo M2 hM2) ?_)
  rintro _ M3 ⟨rfl, hM3, hS3⟩
  exact wp_icmp_eq (t := 1361) (ck_get kk_La_13 32 rfl) (by decide) (fun _ => Kc z2 M3 hO2 (hC2.csame hS3) hM3) (fun q => absurd rfl q)
theorem lac_26 {c L : Nat} {z : ST} {xs : Nat → Int32} (hX : ScrOK g L xs) (hS : OutOK g) (hD : DgOK g) (hP : PvOK g) (h : CR c z M) (h2 : MR z M) (hO : ZOK c z) (hc : c < 512) (hl : 6 * c + 6 ≤ L) (hL : L ≤ 3072) {Q : Option Value → Mem → Prop} (Kc : ∀ z2 M2, ZOK (c + 1) z2 → CR (c + 1) z2 M2 → MR z2 M2 → Wp g (Y_La nm) 2048 1361 (laL c) [] M2 Q) : Wp g (Y_La nm) 2048 909 (laL c) [] M Q := by
  obtain ⟨x, z2, hO2, hC, hMo⟩ : ∃ (x : Int32) (z2 : ST), ZOK (c + 1) z2 ∧ CaC g Y_Mc_share [.int (xs (6 * c + 1)), .int (xs (6 * c + 2))] c M x z2 ∧ ∀ M2, MR z M2 → CaM g Y_Mo_share [.int (xs (6 * c + 1)), .int (xs (6 * c + 2))] M2 x z2 := (b_share (g := g)).two c z M hc hO h
  refine wp_aload_n rfl (ck_get kk_La_13 35 rfl) ?_
  refine wp_aload_nX rfl (ck_get kk_La_13 36 rfl) ?_
  refine wp_iload_n rfl (ck_get kk_La_13 37 rfl) ?_
  refine wp_iconst (v := nI 1) (by decide) (ck_get kk_La_13 38 rfl) ?_
  refine wp_iaddN (ck_get kk_La_13 39 rfl) ?_
  refine wp_sald hX (ck_get kk_La_14 0 rfl) (ixk_nI (k := 6 * c + 1) (by omega) (by omega)) ?_
  refine wp_aload_nX rfl (ck_get kk_La_14 1 rfl) ?_
  refine wp_iload_n rfl (ck_get kk_La_14 2 rfl) ?_
  refine wp_iconst (v := nI 2) (by decide) (ck_get kk_La_14 3 rfl) ?_
  refine wp_iaddN (ck_get kk_La_14 4 rfl) ?_
  refine wp_sald hX (ck_get kk_La_14 5 rfl) (ixk_nI (k := 6 * c + 2) (by omega) (by omega)) ?_
  refine wp_cV2i (ck_get kk_La_14 6 rfl) ml_La_123 (by omega) (Nat.le_of_ble_eq_true rfl) h.t0 (Ci.to hC ?_)
  rintro _ M2 ⟨rfl, hC2, hS2⟩
  have hM2 := h2.msame hS2
  refine wp_aload_n rfl (ck_get kk_La_14 7 rfl) ?_
  refine wp_aload_nX rfl (ck_get kk_La_14 8 rfl) ?_
  refine wp_iload_n rfl (ck_get kk_La_14 9 rfl) ?_
  refine wp_iconst (v := nI 1) (by decide) (ck_get kk_La_14 10 rfl) ?_
  refine wp_iaddN (ck_get kk_La_14 11 rfl) ?_
  refine wp_sald hX (ck_get kk_La_14 12 rfl) (ixk_nI (k := 6 * c + 1) (by omega) (by omega)) ?_
  refine wp_aload_nX rfl (ck_get kk_La_14 13 rfl) ?_
  refine wp_iload_n rfl (ck_get kk_La_14 14 rfl) ?_
  refine wp_iconst (v := nI 2) (by decide) (ck_get kk_La_14 15 rfl) ?_
  refine wp_iaddN (ck_get kk_La_14 16 rfl) ?_
  refine wp_sald hX (ck_get kk_La_14 17 rfl) (ixk_nI (k := 6 * c + 2) (by omega) (by omega)) ?_
  refine wp_cV2i (ck_get kk_La_14 18 rfl) ml_La_126 (by omega) (Nat.le_of_ble_eq_true rfl) hM2.1.1 (Ci.to (hMo M2 hM2) ?_)
  rintro _ M3 ⟨rfl, hM3, hS3⟩
  exact wp_icmp_eq (t := 1361) (ck_get kk_La_14 19 rfl) (by decide) (fun _ => Kc z2 M3 hO2 (hC2.csame hS3) hM3) (fun q => absurd rfl q)
theorem lac_27 {c L : Nat} {z : ST} {xs : Nat → Int32} (hX : ScrOK g L xs) (hS : OutOK g) (hD : DgOK g) (hP : PvOK g) (h : CR c z M) (h2 : MR z M) (hO : ZOK c z) (hc : c < 512) (hl : 6 * c + 6 ≤ L) (hL : L ≤ 3072) {Q : Option Value → Mem → Prop} (Kc : ∀ z2 M2, ZOK (c + 1) z2 → CR (c + 1) z2 M2 → MR z2 M2 → Wp g (Y_La nm) 2048 1361 (laL c) [] M2 Q) : Wp g (Y_La nm) 2048 942 (laL c) [] M Q := by
  obtain ⟨x, z2, hO2, hC, hMo⟩ : ∃ (x : Int32) (z2 : ST), ZOK (c + 1) z2 ∧ CaC g Y_Mc_best [.int (xs (6 * c + 1)), .int (xs (6 * c + 2))] c M x z2 ∧ ∀ M2, MR z M2 → CaM g Y_Mo_best [.int (xs (6 * c + 1)), .int (xs (6 * c + 2))] M2 x z2 := (b_best (g := g)).two c z M hc hO h
  refine wp_aload_n rfl (ck_get kk_La_14 22 rfl) ?_
  refine wp_aload_nX rfl (ck_get kk_La_14 23 rfl) ?_
  refine wp_iload_n rfl (ck_get kk_La_14 24 rfl) ?_
  refine wp_iconst (v := nI 1) (by decide) (ck_get kk_La_14 25 rfl) ?_
  refine wp_iaddN (ck_get kk_La_14 26 rfl) ?_
  refine wp_sald hX (ck_get kk_La_14 27 rfl) (ixk_nI (k := 6 * c + 1) (by omega) (by omega)) ?_
  refine wp_aload_nX rfl (ck_get kk_La_14 28 rfl) ?_
  refine wp_iload_n rfl (ck_get kk_La_14 29 rfl) ?_
  refine wp_iconst (v := nI 2) (by decide) (ck_get kk_La_14 30 rfl) ?_
  refine wp_iaddN (ck_get kk_La_14 31 rfl) ?_
  refine wp_sald hX (ck_get kk_La_14 32 rfl) (ixk_nI (k := 6 * c + 2) (by omega) (by omega)) ?_
  refine wp_cV2i (ck_get kk_La_14 33 rfl) ml_La_127 (by omega) (Nat.le_of_ble_eq_true rfl) h.t0 (Ci.to hC ?_)
  rintro _ M2 ⟨rfl, hC2, hS2⟩
  have hM2 := h2.msame hS2
  refine wp_aload_n rfl (ck_get kk_La_14 34 rfl) ?_
  refine wp_aload_nX rfl (ck_get kk_La_14 35 rfl) ?_
  refine wp_iload_n rfl (ck_get kk_La_14 36 rfl) ?_
  refine wp_iconst (v := nI 1) (by decide) (ck_get kk_La_14 37 rfl) ?_
  refine wp_iaddN (ck_get kk_La_14 38 rfl) ?_
  refine wp_sald hX (ck_get kk_La_14 39 rfl) (ixk_nI (k := 6 * c + 1) (by omega) (by omega)) ?_
  refine wp_aload_nX rfl (ck_get kk_La_15 0 rfl) ?_
  refine wp_iload_n rfl (ck_get kk_La_15 1 rfl) ?_
  refine wp_iconst (v := nI 2) (by decide) (ck_get kk_La_15 2 rfl) ?_
  refine wp_iaddN (ck_get kk_La_15 3 rfl) ?_
  refine wp_sald hX (ck_get kk_La_15 4 rfl) (ixk_nI (k := 6 * c + 2) (by omega) (by omega)) ?_
  refine wp_cV2i (ck_get kk_La_15 5 rfl) ml_La_130 (by omega) (Nat.le_of_ble_eq_true rfl) hM2.1.1 (Ci.to (hMo M2 hM2) ?_)
  rintro _ M3 ⟨rfl, hM3, hS3⟩
  exact wp_icmp_eq (t := 1361) (ck_get kk_La_15 6 rfl) (by decide) (fun _ => Kc z2 M3 hO2 (hC2.csame hS3) hM3) (fun q => absurd rfl q)
theorem lac_28 {c L : Nat} {z : ST} {xs : Nat → Int32} (hX : ScrOK g L xs) (hS : OutOK g) (hD : DgOK g) (hP : PvOK g) (h : CR c z M) (h2 : MR z M) (hO : ZOK c z) (hc : c < 512) (hl : 6 * c + 6 ≤ L) (hL : L ≤ 3072) {Q : Option Value → Mem → Prop} (Kc : ∀ z2 M2, ZOK (c + 1) z2 → CR (c + 1) z2 M2 → MR z2 M2 → Wp g (Y_La nm) 2048 1361 (laL c) [] M2 Q) : Wp g (Y_La nm) 2048 975 (laL c) [] M Q := by
  obtain ⟨x, z2, hO2, hC, hMo⟩ : ∃ (x : Int32) (z2 : ST), ZOK (c + 1) z2 ∧ CaC g Y_Mc_replay [.int (xs (6 * c + 1)), .int (xs (6 * c + 2))] c M x z2 ∧ ∀ M2, MR z M2 → CaM g Y_Mo_replay [.int (xs (6 * c + 1)), .int (xs (6 * c + 2))] M2 x z2 := (b_replay (g := g)).two c z M hc hO h
  refine wp_aload_n rfl (ck_get kk_La_15 9 rfl) ?_
  refine wp_aload_nX rfl (ck_get kk_La_15 10 rfl) ?_
  refine wp_iload_n rfl (ck_get kk_La_15 11 rfl) ?_
  refine wp_iconst (v := nI 1) (by decide) (ck_get kk_La_15 12 rfl) ?_
  refine wp_iaddN (ck_get kk_La_15 13 rfl) ?_
  refine wp_sald hX (ck_get kk_La_15 14 rfl) (ixk_nI (k := 6 * c + 1) (by omega) (by omega)) ?_
  refine wp_aload_nX rfl (ck_get kk_La_15 15 rfl) ?_
  refine wp_iload_n rfl (ck_get kk_La_15 16 rfl) ?_
  refine wp_iconst (v := nI 2) (by decide) (ck_get kk_La_15 17 rfl) ?_
  refine wp_iaddN (ck_get kk_La_15 18 rfl) ?_
  refine wp_sald hX (ck_get kk_La_15 19 rfl) (ixk_nI (k := 6 * c + 2) (by omega) (by omega)) ?_
  refine wp_cV2i (ck_get kk_La_15 20 rfl) ml_La_131 (by omega) (Nat.le_of_ble_eq_true rfl) h.t0 (Ci.to hC ?_)
  rintro _ M2 ⟨rfl, hC2, hS2⟩
  have hM2 := h2.msame hS2
  refine wp_aload_n rfl (ck_get kk_La_15 21 rfl) ?_
  refine wp_aload_nX rfl (ck_get kk_La_15 22 rfl) ?_
  refine wp_iload_n rfl (ck_get kk_La_15 23 rfl) ?_
  refine wp_iconst (v := nI 1) (by decide) (ck_get kk_La_15 24 rfl) ?_
  refine wp_iaddN (ck_get kk_La_15 25 rfl) ?_
  refine wp_sald hX (ck_get kk_La_15 26 rfl) (ixk_nI (k := 6 * c + 1) (by omega) (by omega)) ?_
  refine wp_aload_nX rfl (ck_get kk_La_15 27 rfl) ?_
  refine wp_iload_n rfl (ck_get kk_La_15 28 rfl) ?_
  refine wp_iconst (v := nI 2) (by decide) (ck_get kk_La_15 29 rfl) ?_
  refine wp_iaddN (ck_get kk_La_15 30 rfl) ?_
  refine wp_sald hX (ck_get kk_La_15 31 rfl) (ixk_nI (k := 6 * c + 2) (by omega) (by omega)) ?_
  refine wp_cV2i (ck_get kk_La_15 32 rfl) ml_La_134 (by omega) (Nat.le_of_ble_eq_true rfl) hM2.1.1 (Ci.to (hMo M2 hM2) ?_)
  rintro _ M3 ⟨rfl, hM3, hS3⟩
  exact wp_icmp_eq (t := 1361) (ck_get kk_La_15 33 rfl) (by decide) (fun _ => Kc z2 M3 hO2 (hC2.csame hS3) hM3) (fun q => absurd rfl q)
theorem lac_29 {c L : Nat} {z : ST} {xs : Nat → Int32} (hX : ScrOK g L xs) (hS : OutOK g) (hD : DgOK g) (hP : PvOK g) (h : CR c z M) (h2 : MR z M) (hO : ZOK c z) (hc : c < 512) (hl : 6 * c + 6 ≤ L) (hL : L ≤ 3072) {Q : Option Value → Mem → Prop} (Kc : ∀ z2 M2, ZOK (c + 1) z2 → CR (c + 1) z2 M2 → MR z2 M2 → Wp g (Y_La nm) 2048 1361 (laL c) [] M2 Q) : Wp g (Y_La nm) 2048 1008 (laL c) [] M Q := by
  obtain ⟨x, z2, hO2, hC, hMo⟩ : ∃ (x : Int32) (z2 : ST), ZOK (c + 1) z2 ∧ CaC g Y_Mc_odd [.int (xs (6 * c + 1))] c M x z2 ∧ ∀ M2, MR z M2 → CaM g Y_Mo_odd [.int (xs (6 * c + 1))] M2 x z2 := (b_odd (g := g)).two c z M hc hO h
  refine wp_aload_n rfl (ck_get kk_La_15 36 rfl) ?_
  refine wp_aload_nX rfl (ck_get kk_La_15 37 rfl) ?_
  refine wp_iload_n rfl (ck_get kk_La_15 38 rfl) ?_
  refine wp_iconst (v := nI 1) (by decide) (ck_get kk_La_15 39 rfl) ?_
  refine wp_iaddN (ck_get kk_La_16 0 rfl) ?_
  refine wp_sald hX (ck_get kk_La_16 1 rfl) (ixk_nI (k := 6 * c + 1) (by omega) (by omega)) ?_
  refine wp_cV1i (ck_get kk_La_16 2 rfl) ml_La_135 (by omega) (Nat.le_of_ble_eq_true rfl) h.t0 (Ci.to hC ?_)
  rintro _ M2 ⟨rfl, hC2, hS2⟩
  have hM2 := h2.msame hS2
  refine wp_aload_n rfl (ck_get kk_La_16 3 rfl) ?_
  refine wp_aload_nX rfl (ck_get kk_La_16 4 rfl) ?_
  refine wp_iload_n rfl (ck_get kk_La_16 5 rfl) ?_
  refine wp_iconst (v := nI 1) (by decide) (ck_get kk_La_16 6 rfl) ?_
  refine wp_iaddN (ck_get kk_La_16 7 rfl) ?_
  refine wp_sald hX (ck_get kk_La_16 8 rfl) (ixk_nI (k := 6 * c + 1) (by omega) (by omega)) ?_
  refine wp_cV1i (ck_get kk_La_16 9 rfl) ml_La_138 (by omega) (Nat.le_of_ble_eq_true rfl) hM2.1.1 (Ci.to (hMo M2 hM2) ?_)
  rintro _ M3 ⟨rfl, hM3, hS3⟩
  exact wp_icmp_eq (t := 1361) (ck_get kk_La_16 10 rfl) (by decide) (fun _ => Kc z2 M3 hO2 (hC2.csame hS3) hM3) (fun q => absurd rfl q)
theorem lac_30 {c L : Nat} {z : ST} {xs : Nat → Int32} (hX : ScrOK g L xs) (hS : OutOK g) (hD : DgOK g) (hP : PvOK g) (h : CR c z M) (h2 : MR z M) (hO : ZOK c z) (hc : c < 512) (hl : 6 * c + 6 ≤ L) (hL : L ≤ 3072) {Q : Option Value → Mem → Prop} (Kc : ∀ z2 M2, ZOK (c + 1) z2 → CR (c + 1) z2 M2 → MR z2 M2 → Wp g (Y_La nm) 2048 1361 (laL c) [] M2 Q) : Wp g (Y_La nm) 2048 1031 (laL c) [] M Q := by
  obtain ⟨x, z2, hO2, hC, hMo⟩ : ∃ (x : Int32) (z2 : ST), ZOK (c + 1) z2 ∧ CaC g Y_Mc_spilt [.int (xs (6 * c + 1))] c M x z2 ∧ ∀ M2, MR z M2 → CaM g Y_Mo_spilt [.int (xs (6 * c + 1))] M2 x z2 := (b_spilt (g := g)).two c z M hc hO h
  refine wp_aload_n rfl (ck_get kk_La_16 13 rfl) ?_
  refine wp_aload_nX rfl (ck_get kk_La_16 14 rfl) ?_
  refine wp_iload_n rfl (ck_get kk_La_16 15 rfl) ?_
  refine wp_iconst (v := nI 1) (by decide) (ck_get kk_La_16 16 rfl) ?_
  refine wp_iaddN (ck_get kk_La_16 17 rfl) ?_
  refine wp_sald hX (ck_get kk_La_16 18 rfl) (ixk_nI (k := 6 * c + 1) (by omega) (by omega)) ?_
  refine wp_cV1i (ck_get kk_La_16 19 rfl) ml_La_139 (by omega) (Nat.le_of_ble_eq_true rfl) h.t0 (Ci.to hC ?_)
  rintro _ M2 ⟨rfl, hC2, hS2⟩
  have hM2 := h2.msame hS2
  refine wp_aload_n rfl (ck_get kk_La_16 20 rfl) ?_
  refine wp_aload_nX rfl (ck_get kk_La_16 21 rfl) ?_
  refine wp_iload_n rfl (ck_get kk_La_16 22 rfl) ?_
  refine wp_iconst (v := nI 1) (by decide) (ck_get kk_La_16 23 rfl) ?_
  refine wp_iaddN (ck_get kk_La_16 24 rfl) ?_
  refine wp_sald hX (ck_get kk_La_16 25 rfl) (ixk_nI (k := 6 * c + 1) (by omega) (by omega)) ?_
  refine wp_cV1i (ck_get kk_La_16 26 rfl) ml_La_142 (by omega) (Nat.le_of_ble_eq_true rfl) hM2.1.1 (Ci.to (hMo M2 hM2) ?_)
  rintro _ M3 ⟨rfl, hM3, hS3⟩
  exact wp_icmp_eq (t := 1361) (ck_get kk_La_16 27 rfl) (by decide) (fun _ => Kc z2 M3 hO2 (hC2.csame hS3) hM3) (fun q => absurd rfl q)
theorem lac_31 {c L : Nat} {z : ST} {xs : Nat → Int32} (hX : ScrOK g L xs) (hS : OutOK g) (hD : DgOK g) (hP : PvOK g) (h : CR c z M) (h2 : MR z M) (hO : ZOK c z) (hc : c < 512) (hl : 6 * c + 6 ≤ L) (hL : L ≤ 3072) {Q : Option Value → Mem → Prop} (Kc : ∀ z2 M2, ZOK (c + 1) z2 → CR (c + 1) z2 M2 → MR z2 M2 → Wp g (Y_La nm) 2048 1361 (laL c) [] M2 Q) : Wp g (Y_La nm) 2048 1054 (laL c) [] M Q := by
  obtain ⟨x, z2, hO2, hC, hMo⟩ : ∃ (x : Int32) (z2 : ST), ZOK (c + 1) z2 ∧ CaC g Y_Mc_seen [.int (xs (6 * c + 1)), .int (xs (6 * c + 2))] c M x z2 ∧ ∀ M2, MR z M2 → CaM g Y_Mo_seen [.int (xs (6 * c + 1)), .int (xs (6 * c + 2))] M2 x z2 := (b_seen (g := g)).two c z M hc hO h
  refine wp_aload_n rfl (ck_get kk_La_16 30 rfl) ?_
  refine wp_aload_nX rfl (ck_get kk_La_16 31 rfl) ?_
  refine wp_iload_n rfl (ck_get kk_La_16 32 rfl) ?_
  refine wp_iconst (v := nI 1) (by decide) (ck_get kk_La_16 33 rfl) ?_
  refine wp_iaddN (ck_get kk_La_16 34 rfl) ?_
  refine wp_sald hX (ck_get kk_La_16 35 rfl) (ixk_nI (k := 6 * c + 1) (by omega) (by omega)) ?_
  refine wp_aload_nX rfl (ck_get kk_La_16 36 rfl) ?_
  refine wp_iload_n rfl (ck_get kk_La_16 37 rfl) ?_
  refine wp_iconst (v := nI 2) (by decide) (ck_get kk_La_16 38 rfl) ?_
  refine wp_iaddN (ck_get kk_La_16 39 rfl) ?_
  refine wp_sald hX (ck_get kk_La_17 0 rfl) (ixk_nI (k := 6 * c + 2) (by omega) (by omega)) ?_
  refine wp_cV2i (ck_get kk_La_17 1 rfl) ml_La_143 (by omega) (Nat.le_of_ble_eq_true rfl) h.t0 (Ci.to hC ?_)
  rintro _ M2 ⟨rfl, hC2, hS2⟩
  have hM2 := h2.msame hS2
  refine wp_aload_n rfl (ck_get kk_La_17 2 rfl) ?_
  refine wp_aload_nX rfl (ck_get kk_La_17 3 rfl) ?_
  refine wp_iload_n rfl (ck_get kk_La_17 4 rfl) ?_
  refine wp_iconst (v := nI 1) (by decide) (ck_get kk_La_17 5 rfl) ?_
  refine wp_iaddN (ck_get kk_La_17 6 rfl) ?_
  refine wp_sald hX (ck_get kk_La_17 7 rfl) (ixk_nI (k := 6 * c + 1) (by omega) (by omega)) ?_
  refine wp_aload_nX rfl (ck_get kk_La_17 8 rfl) ?_
  refine wp_iload_n rfl (ck_get kk_La_17 9 rfl) ?_
  refine wp_iconst (v := nI 2) (by decide) (ck_get kk_La_17 10 rfl) ?_
  refine wp_iaddN (ck_get kk_La_17 11 rfl) ?_
  refine wp_sald hX (ck_get kk_La_17 12 rfl) (ixk_nI (k := 6 * c + 2) (by omega) (by omega)) ?_
  refine wp_cV2i (ck_get kk_La_17 13 rfl) ml_La_146 (by omega) (Nat.le_of_ble_eq_true rfl) hM2.1.1 (Ci.to (hMo M2 hM2) ?_)
  rintro _ M3 ⟨rfl, hM3, hS3⟩
  exact wp_icmp_eq (t := 1361) (ck_get kk_La_17 14 rfl) (by decide) (fun _ => Kc z2 M3 hO2 (hC2.csame hS3) hM3) (fun q => absurd rfl q)
theorem lac_32 {c L : Nat} {z : ST} {xs : Nat → Int32} (hX : ScrOK g L xs) (hS : OutOK g) (hD : DgOK g) (hP : PvOK g) (h : CR c z M) (h2 : MR z M) (hO : ZOK c z) (hc : c < 512) (hl : 6 * c + 6 ≤ L) (hL : L ≤ 3072) {Q : Option Value → Mem → Prop} (Kc : ∀ z2 M2, ZOK (c + 1) z2 → CR (c + 1) z2 M2 → MR z2 M2 → Wp g (Y_La nm) 2048 1361 (laL c) [] M2 Q) : Wp g (Y_La nm) 2048 1087 (laL c) [] M Q := by
  obtain ⟨x, z2, hO2, hC, hMo⟩ : ∃ (x : Int32) (z2 : ST), ZOK (c + 1) z2 ∧ CaC g Y_Mc_forget [] c M x z2 ∧ ∀ M2, MR z M2 → CaM g Y_Mo_forget [] M2 x z2 := (b_forget (g := g)).two c z M hc hO h
  refine wp_aload_n rfl (ck_get kk_La_17 17 rfl) ?_
  refine wp_cV0i (ck_get kk_La_17 18 rfl) ml_La_147 (by omega) (Nat.le_of_ble_eq_true rfl) h.t0 (Ci.to hC ?_)
  rintro _ M2 ⟨rfl, hC2, hS2⟩
  have hM2 := h2.msame hS2
  refine wp_aload_n rfl (ck_get kk_La_17 19 rfl) ?_
  refine wp_cV0i (ck_get kk_La_17 20 rfl) ml_La_150 (by omega) (Nat.le_of_ble_eq_true rfl) hM2.1.1 (Ci.to (hMo M2 hM2) ?_)
  rintro _ M3 ⟨rfl, hM3, hS3⟩
  exact wp_icmp_eq (t := 1361) (ck_get kk_La_17 21 rfl) (by decide) (fun _ => Kc z2 M3 hO2 (hC2.csame hS3) hM3) (fun q => absurd rfl q)
theorem lac_33 {c L : Nat} {z : ST} {xs : Nat → Int32} (hX : ScrOK g L xs) (hS : OutOK g) (hD : DgOK g) (hP : PvOK g) (h : CR c z M) (h2 : MR z M) (hO : ZOK c z) (hc : c < 512) (hl : 6 * c + 6 ≤ L) (hL : L ≤ 3072) {Q : Option Value → Mem → Prop} (Kc : ∀ z2 M2, ZOK (c + 1) z2 → CR (c + 1) z2 M2 → MR z2 M2 → Wp g (Y_La nm) 2048 1361 (laL c) [] M2 Q) : Wp g (Y_La nm) 2048 1100 (laL c) [] M Q := by
  obtain ⟨x, z2, hO2, hC, hMo⟩ : ∃ (x : Int32) (z2 : ST), ZOK (c + 1) z2 ∧ CaC g Y_Mc_canBe [] c M x z2 ∧ ∀ M2, MR z M2 → CaM g Y_Mo_canBe [] M2 x z2 := (b_canBe (g := g)).two c z M hc hO h
  refine wp_aload_n rfl (ck_get kk_La_17 24 rfl) ?_
  refine wp_cV0i (ck_get kk_La_17 25 rfl) ml_La_151 (by omega) (Nat.le_of_ble_eq_true rfl) h.t0 (Ci.to hC ?_)
  rintro _ M2 ⟨rfl, hC2, hS2⟩
  have hM2 := h2.msame hS2
  refine wp_aload_n rfl (ck_get kk_La_17 26 rfl) ?_
  refine wp_cV0i (ck_get kk_La_17 27 rfl) ml_La_154 (by omega) (Nat.le_of_ble_eq_true rfl) hM2.1.1 (Ci.to (hMo M2 hM2) ?_)
  rintro _ M3 ⟨rfl, hM3, hS3⟩
  exact wp_icmp_eq (t := 1361) (ck_get kk_La_17 28 rfl) (by decide) (fun _ => Kc z2 M3 hO2 (hC2.csame hS3) hM3) (fun q => absurd rfl q)
theorem lac_34 {c L : Nat} {z : ST} {xs : Nat → Int32} (hX : ScrOK g L xs) (hS : OutOK g) (hD : DgOK g) (hP : PvOK g) (h : CR c z M) (h2 : MR z M) (hO : ZOK c z) (hc : c < 512) (hl : 6 * c + 6 ≤ L) (hL : L ≤ 3072) {Q : Option Value → Mem → Prop} (Kc : ∀ z2 M2, ZOK (c + 1) z2 → CR (c + 1) z2 M2 → MR z2 M2 → Wp g (Y_La nm) 2048 1361 (laL c) [] M2 Q) : Wp g (Y_La nm) 2048 1113 (laL c) [] M Q := by
  obtain ⟨x, z2, hO2, hC, hMo⟩ : ∃ (x : Int32) (z2 : ST), ZOK (c + 1) z2 ∧ CaC g Y_Mc_ask [.int (xs (6 * c + 1))] c M x z2 ∧ ∀ M2, MR z M2 → CaM g Y_Mo_ask [.int (xs (6 * c + 1))] M2 x z2 := (b_ask (g := g)).two c z M hc hO h
  refine wp_aload_n rfl (ck_get kk_La_17 31 rfl) ?_
  refine wp_aload_nX rfl (ck_get kk_La_17 32 rfl) ?_
  refine wp_iload_n rfl (ck_get kk_La_17 33 rfl) ?_
  refine wp_iconst (v := nI 1) (by decide) (ck_get kk_La_17 34 rfl) ?_
  refine wp_iaddN (ck_get kk_La_17 35 rfl) ?_
  refine wp_sald hX (ck_get kk_La_17 36 rfl) (ixk_nI (k := 6 * c + 1) (by omega) (by omega)) ?_
  refine wp_cV1i (ck_get kk_La_17 37 rfl) ml_La_155 (by omega) (Nat.le_of_ble_eq_true rfl) h.t0 (Ci.to hC ?_)
  rintro _ M2 ⟨rfl, hC2, hS2⟩
  have hM2 := h2.msame hS2
  refine wp_aload_n rfl (ck_get kk_La_17 38 rfl) ?_
  refine wp_aload_nX rfl (ck_get kk_La_17 39 rfl) ?_
  refine wp_iload_n rfl (ck_get kk_La_18 0 rfl) ?_
  refine wp_iconst (v := nI 1) (by decide) (ck_get kk_La_18 1 rfl) ?_
  refine wp_iaddN (ck_get kk_La_18 2 rfl) ?_
  refine wp_sald hX (ck_get kk_La_18 3 rfl) (ixk_nI (k := 6 * c + 1) (by omega) (by omega)) ?_
  refine wp_cV1i (ck_get kk_La_18 4 rfl) ml_La_158 (by omega) (Nat.le_of_ble_eq_true rfl) hM2.1.1 (Ci.to (hMo M2 hM2) ?_)
  rintro _ M3 ⟨rfl, hM3, hS3⟩
  exact wp_icmp_eq (t := 1361) (ck_get kk_La_18 5 rfl) (by decide) (fun _ => Kc z2 M3 hO2 (hC2.csame hS3) hM3) (fun q => absurd rfl q)
theorem lac_35 {c L : Nat} {z : ST} {xs : Nat → Int32} (hX : ScrOK g L xs) (hS : OutOK g) (hD : DgOK g) (hP : PvOK g) (h : CR c z M) (h2 : MR z M) (hO : ZOK c z) (hc : c < 512) (hl : 6 * c + 6 ≤ L) (hL : L ≤ 3072) {Q : Option Value → Mem → Prop} (Kc : ∀ z2 M2, ZOK (c + 1) z2 → CR (c + 1) z2 M2 → MR z2 M2 → Wp g (Y_La nm) 2048 1361 (laL c) [] M2 Q) : Wp g (Y_La nm) 2048 1136 (laL c) [] M Q := by
  obtain ⟨x, hC, hMo⟩ : ∃ (x : Int64), (∀ M, CR c z M → Cl g Y_Mc_few 300 (.ref 0 :: [.int (xs (6 * c + 1)), .int (xs (6 * c + 2))]) M (fun y M2 => y = x ∧ CR (c + 1) z M2 ∧ MSame M M2)) ∧ ∀ M, MR z M → Cl g Y_Mo_few 300 (.ref 1020 :: [.int (xs (6 * c + 1)), .int (xs (6 * c + 2))]) M (fun y M2 => y = x ∧ MR z M2 ∧ CSame M M2) := b_few c z hc hO
  refine wp_aload_n rfl (ck_get kk_La_18 8 rfl) ?_
  refine wp_aload_nX rfl (ck_get kk_La_18 9 rfl) ?_
  refine wp_iload_n rfl (ck_get kk_La_18 10 rfl) ?_
  refine wp_iconst (v := nI 1) (by decide) (ck_get kk_La_18 11 rfl) ?_
  refine wp_iaddN (ck_get kk_La_18 12 rfl) ?_
  refine wp_sald hX (ck_get kk_La_18 13 rfl) (ixk_nI (k := 6 * c + 1) (by omega) (by omega)) ?_
  refine wp_aload_nX rfl (ck_get kk_La_18 14 rfl) ?_
  refine wp_iload_n rfl (ck_get kk_La_18 15 rfl) ?_
  refine wp_iconst (v := nI 2) (by decide) (ck_get kk_La_18 16 rfl) ?_
  refine wp_iaddN (ck_get kk_La_18 17 rfl) ?_
  refine wp_sald hX (ck_get kk_La_18 18 rfl) (ixk_nI (k := 6 * c + 2) (by omega) (by omega)) ?_
  refine wp_cV2l (ck_get kk_La_18 19 rfl) ml_La_159 (by omega) (Nat.le_of_ble_eq_true rfl) h.t0 (Cl.to (hC M h) ?_)
  rintro _ M2 ⟨rfl, hC2, hS2⟩
  have hM2 := h2.msame hS2
  refine wp_aload_n rfl (ck_get kk_La_18 20 rfl) ?_
  refine wp_aload_nX rfl (ck_get kk_La_18 21 rfl) ?_
  refine wp_iload_n rfl (ck_get kk_La_18 22 rfl) ?_
  refine wp_iconst (v := nI 1) (by decide) (ck_get kk_La_18 23 rfl) ?_
  refine wp_iaddN (ck_get kk_La_18 24 rfl) ?_
  refine wp_sald hX (ck_get kk_La_18 25 rfl) (ixk_nI (k := 6 * c + 1) (by omega) (by omega)) ?_
  refine wp_aload_nX rfl (ck_get kk_La_18 26 rfl) ?_
  refine wp_iload_n rfl (ck_get kk_La_18 27 rfl) ?_
  refine wp_iconst (v := nI 2) (by decide) (ck_get kk_La_18 28 rfl) ?_
  refine wp_iaddN (ck_get kk_La_18 29 rfl) ?_
  refine wp_sald hX (ck_get kk_La_18 30 rfl) (ixk_nI (k := 6 * c + 2) (by omega) (by omega)) ?_
  refine wp_cV2l (ck_get kk_La_18 31 rfl) ml_La_162 (by omega) (Nat.le_of_ble_eq_true rfl) hM2.1.1 (Cl.to (hMo M2 hM2) ?_)
  rintro _ M3 ⟨rfl, hM3, hS3⟩
  refine wp_lcmp (ck_get kk_La_18 32 rfl) ?_
  exact wp_if_eq (t := 1361) (ck_get kk_La_18 33 rfl) (by decide) (fun _ => Kc z M3 (hO.le (Nat.le_succ c)) (hC2.csame hS3) hM3) (fun q => absurd ((lcmp_eq _ _).mpr rfl) q)
theorem lac_36 {c L : Nat} {z : ST} {xs : Nat → Int32} (hX : ScrOK g L xs) (hS : OutOK g) (hD : DgOK g) (hP : PvOK g) (h : CR c z M) (h2 : MR z M) (hO : ZOK c z) (hc : c < 512) (hl : 6 * c + 6 ≤ L) (hL : L ≤ 3072) {Q : Option Value → Mem → Prop} (Kc : ∀ z2 M2, ZOK (c + 1) z2 → CR (c + 1) z2 M2 → MR z2 M2 → Wp g (Y_La nm) 2048 1361 (laL c) [] M2 Q) : Wp g (Y_La nm) 2048 1170 (laL c) [] M Q := by
  obtain ⟨x, z2, hO2, hC, hMo⟩ : ∃ (x : Int32) (z2 : ST), ZOK (c + 1) z2 ∧ CaC g Y_Mc_compare [.int (xs (6 * c + 1)), .int (xs (6 * c + 2)), .int (xs (6 * c + 3))] c M x z2 ∧ ∀ M2, MR z M2 → CaM g Y_Mo_compare [.int (xs (6 * c + 1)), .int (xs (6 * c + 2)), .int (xs (6 * c + 3))] M2 x z2 := (b_compare (g := g)).two c z M hc hO h
  refine wp_aload_n rfl (ck_get kk_La_18 36 rfl) ?_
  refine wp_aload_nX rfl (ck_get kk_La_18 37 rfl) ?_
  refine wp_iload_n rfl (ck_get kk_La_18 38 rfl) ?_
  refine wp_iconst (v := nI 1) (by decide) (ck_get kk_La_18 39 rfl) ?_
  refine wp_iaddN (ck_get kk_La_19 0 rfl) ?_
  refine wp_sald hX (ck_get kk_La_19 1 rfl) (ixk_nI (k := 6 * c + 1) (by omega) (by omega)) ?_
  refine wp_aload_nX rfl (ck_get kk_La_19 2 rfl) ?_
  refine wp_iload_n rfl (ck_get kk_La_19 3 rfl) ?_
  refine wp_iconst (v := nI 2) (by decide) (ck_get kk_La_19 4 rfl) ?_
  refine wp_iaddN (ck_get kk_La_19 5 rfl) ?_
  refine wp_sald hX (ck_get kk_La_19 6 rfl) (ixk_nI (k := 6 * c + 2) (by omega) (by omega)) ?_
  refine wp_aload_nX rfl (ck_get kk_La_19 7 rfl) ?_
  refine wp_iload_n rfl (ck_get kk_La_19 8 rfl) ?_
  refine wp_iconst (v := nI 3) (by decide) (ck_get kk_La_19 9 rfl) ?_
  refine wp_iaddN (ck_get kk_La_19 10 rfl) ?_
  refine wp_sald hX (ck_get kk_La_19 11 rfl) (ixk_nI (k := 6 * c + 3) (by omega) (by omega)) ?_
  refine wp_cV3i (ck_get kk_La_19 12 rfl) ml_La_163 (by omega) (Nat.le_of_ble_eq_true rfl) h.t0 (Ci.to hC ?_)
  rintro _ M2 ⟨rfl, hC2, hS2⟩
  have hM2 := h2.msame hS2
  refine wp_aload_n rfl (ck_get kk_La_19 13 rfl) ?_
  refine wp_aload_nX rfl (ck_get kk_La_19 14 rfl) ?_
  refine wp_iload_n rfl (ck_get kk_La_19 15 rfl) ?_
  refine wp_iconst (v := nI 1) (by decide) (ck_get kk_La_19 16 rfl) ?_
  refine wp_iaddN (ck_get kk_La_19 17 rfl) ?_
  refine wp_sald hX (ck_get kk_La_19 18 rfl) (ixk_nI (k := 6 * c + 1) (by omega) (by omega)) ?_
  refine wp_aload_nX rfl (ck_get kk_La_19 19 rfl) ?_
  refine wp_iload_n rfl (ck_get kk_La_19 20 rfl) ?_
  refine wp_iconst (v := nI 2) (by decide) (ck_get kk_La_19 21 rfl) ?_
  refine wp_iaddN (ck_get kk_La_19 22 rfl) ?_
  refine wp_sald hX (ck_get kk_La_19 23 rfl) (ixk_nI (k := 6 * c + 2) (by omega) (by omega)) ?_
  refine wp_aload_nX rfl (ck_get kk_La_19 24 rfl) ?_
  refine wp_iload_n rfl (ck_get kk_La_19 25 rfl) ?_
  refine wp_iconst (v := nI 3) (by decide) (ck_get kk_La_19 26 rfl) ?_
  refine wp_iaddN (ck_get kk_La_19 27 rfl) ?_
  refine wp_sald hX (ck_get kk_La_19 28 rfl) (ixk_nI (k := 6 * c + 3) (by omega) (by omega)) ?_
  refine wp_cV3i (ck_get kk_La_19 29 rfl) ml_La_166 (by omega) (Nat.le_of_ble_eq_true rfl) hM2.1.1 (Ci.to (hMo M2 hM2) ?_)
  rintro _ M3 ⟨rfl, hM3, hS3⟩
  exact wp_icmp_eq (t := 1361) (ck_get kk_La_19 30 rfl) (by decide) (fun _ => Kc z2 M3 hO2 (hC2.csame hS3) hM3) (fun q => absurd rfl q)
theorem lac_37 {c L : Nat} {z : ST} {xs : Nat → Int32} (hX : ScrOK g L xs) (hS : OutOK g) (hD : DgOK g) (hP : PvOK g) (h : CR c z M) (h2 : MR z M) (hO : ZOK c z) (hc : c < 512) (hl : 6 * c + 6 ≤ L) (hL : L ≤ 3072) {Q : Option Value → Mem → Prop} (Kc : ∀ z2 M2, ZOK (c + 1) z2 → CR (c + 1) z2 M2 → MR z2 M2 → Wp g (Y_La nm) 2048 1361 (laL c) [] M2 Q) : Wp g (Y_La nm) 2048 1213 (laL c) [] M Q := by
  obtain ⟨x, z2, hO2, hC, hMo⟩ : ∃ (x : Int32) (z2 : ST), ZOK (c + 1) z2 ∧ CaC g Y_Mc_months [.int (xs (6 * c + 1)), .int (xs (6 * c + 2))] c M x z2 ∧ ∀ M2, MR z M2 → CaM g Y_Mo_months [.int (xs (6 * c + 1)), .int (xs (6 * c + 2))] M2 x z2 := (b_months (g := g)).two c z M hc hO h
  refine wp_aload_n rfl (ck_get kk_La_19 33 rfl) ?_
  refine wp_aload_nX rfl (ck_get kk_La_19 34 rfl) ?_
  refine wp_iload_n rfl (ck_get kk_La_19 35 rfl) ?_
  refine wp_iconst (v := nI 1) (by decide) (ck_get kk_La_19 36 rfl) ?_
  refine wp_iaddN (ck_get kk_La_19 37 rfl) ?_
  refine wp_sald hX (ck_get kk_La_19 38 rfl) (ixk_nI (k := 6 * c + 1) (by omega) (by omega)) ?_
  refine wp_aload_nX rfl (ck_get kk_La_19 39 rfl) ?_
  refine wp_iload_n rfl (ck_get kk_La_20 0 rfl) ?_
  refine wp_iconst (v := nI 2) (by decide) (ck_get kk_La_20 1 rfl) ?_
  refine wp_iaddN (ck_get kk_La_20 2 rfl) ?_
  refine wp_sald hX (ck_get kk_La_20 3 rfl) (ixk_nI (k := 6 * c + 2) (by omega) (by omega)) ?_
  refine wp_cV2i (ck_get kk_La_20 4 rfl) ml_La_167 (by omega) (Nat.le_of_ble_eq_true rfl) h.t0 (Ci.to hC ?_)
  rintro _ M2 ⟨rfl, hC2, hS2⟩
  have hM2 := h2.msame hS2
  refine wp_aload_n rfl (ck_get kk_La_20 5 rfl) ?_
  refine wp_aload_nX rfl (ck_get kk_La_20 6 rfl) ?_
  refine wp_iload_n rfl (ck_get kk_La_20 7 rfl) ?_
  refine wp_iconst (v := nI 1) (by decide) (ck_get kk_La_20 8 rfl) ?_
  refine wp_iaddN (ck_get kk_La_20 9 rfl) ?_
  refine wp_sald hX (ck_get kk_La_20 10 rfl) (ixk_nI (k := 6 * c + 1) (by omega) (by omega)) ?_
  refine wp_aload_nX rfl (ck_get kk_La_20 11 rfl) ?_
  refine wp_iload_n rfl (ck_get kk_La_20 12 rfl) ?_
  refine wp_iconst (v := nI 2) (by decide) (ck_get kk_La_20 13 rfl) ?_
  refine wp_iaddN (ck_get kk_La_20 14 rfl) ?_
  refine wp_sald hX (ck_get kk_La_20 15 rfl) (ixk_nI (k := 6 * c + 2) (by omega) (by omega)) ?_
  refine wp_cV2i (ck_get kk_La_20 16 rfl) ml_La_170 (by omega) (Nat.le_of_ble_eq_true rfl) hM2.1.1 (Ci.to (hMo M2 hM2) ?_)
  rintro _ M3 ⟨rfl, hM3, hS3⟩
  exact wp_icmp_eq (t := 1361) (ck_get kk_La_20 17 rfl) (by decide) (fun _ => Kc z2 M3 hO2 (hC2.csame hS3) hM3) (fun q => absurd rfl q)
theorem lac_38 {c L : Nat} {z : ST} {xs : Nat → Int32} (hX : ScrOK g L xs) (hS : OutOK g) (hD : DgOK g) (hP : PvOK g) (h : CR c z M) (h2 : MR z M) (hO : ZOK c z) (hc : c < 512) (hl : 6 * c + 6 ≤ L) (hL : L ≤ 3072) {Q : Option Value → Mem → Prop} (Kc : ∀ z2 M2, ZOK (c + 1) z2 → CR (c + 1) z2 M2 → MR z2 M2 → Wp g (Y_La nm) 2048 1361 (laL c) [] M2 Q) : Wp g (Y_La nm) 2048 1246 (laL c) [] M Q := by
  obtain ⟨x, z2, hO2, hC, hMo⟩ : ∃ (x : Int32) (z2 : ST), ZOK (c + 1) z2 ∧ CaC g Y_Mc_drawn [.int (xs (6 * c + 1)), .int (xs (6 * c + 2))] c M x z2 ∧ ∀ M2, MR z M2 → CaM g Y_Mo_drawn [.int (xs (6 * c + 1)), .int (xs (6 * c + 2))] M2 x z2 := (b_drawn (g := g)).two c z M hc hO h
  refine wp_aload_n rfl (ck_get kk_La_20 20 rfl) ?_
  refine wp_aload_nX rfl (ck_get kk_La_20 21 rfl) ?_
  refine wp_iload_n rfl (ck_get kk_La_20 22 rfl) ?_
  refine wp_iconst (v := nI 1) (by decide) (ck_get kk_La_20 23 rfl) ?_
  refine wp_iaddN (ck_get kk_La_20 24 rfl) ?_
  refine wp_sald hX (ck_get kk_La_20 25 rfl) (ixk_nI (k := 6 * c + 1) (by omega) (by omega)) ?_
  refine wp_aload_nX rfl (ck_get kk_La_20 26 rfl) ?_
  refine wp_iload_n rfl (ck_get kk_La_20 27 rfl) ?_
  refine wp_iconst (v := nI 2) (by decide) (ck_get kk_La_20 28 rfl) ?_
  refine wp_iaddN (ck_get kk_La_20 29 rfl) ?_
  refine wp_sald hX (ck_get kk_La_20 30 rfl) (ixk_nI (k := 6 * c + 2) (by omega) (by omega)) ?_
  refine wp_cV2i (ck_get kk_La_20 31 rfl) ml_La_171 (by omega) (Nat.le_of_ble_eq_true rfl) h.t0 (Ci.to hC ?_)
  rintro _ M2 ⟨rfl, hC2, hS2⟩
  have hM2 := h2.msame hS2
  refine wp_aload_n rfl (ck_get kk_La_20 32 rfl) ?_
  refine wp_aload_nX rfl (ck_get kk_La_20 33 rfl) ?_
  refine wp_iload_n rfl (ck_get kk_La_20 34 rfl) ?_
  refine wp_iconst (v := nI 1) (by decide) (ck_get kk_La_20 35 rfl) ?_
  refine wp_iaddN (ck_get kk_La_20 36 rfl) ?_
  refine wp_sald hX (ck_get kk_La_20 37 rfl) (ixk_nI (k := 6 * c + 1) (by omega) (by omega)) ?_
  refine wp_aload_nX rfl (ck_get kk_La_20 38 rfl) ?_
  refine wp_iload_n rfl (ck_get kk_La_20 39 rfl) ?_
  refine wp_iconst (v := nI 2) (by decide) (ck_get kk_La_21 0 rfl) ?_
  refine wp_iaddN (ck_get kk_La_21 1 rfl) ?_
  refine wp_sald hX (ck_get kk_La_21 2 rfl) (ixk_nI (k := 6 * c + 2) (by omega) (by omega)) ?_
  refine wp_cV2i (ck_get kk_La_21 3 rfl) ml_La_174 (by omega) (Nat.le_of_ble_eq_true rfl) hM2.1.1 (Ci.to (hMo M2 hM2) ?_)
  rintro _ M3 ⟨rfl, hM3, hS3⟩
  exact wp_icmp_eq (t := 1361) (ck_get kk_La_21 4 rfl) (by decide) (fun _ => Kc z2 M3 hO2 (hC2.csame hS3) hM3) (fun q => absurd rfl q)
theorem lac_39 {c L : Nat} {z : ST} {xs : Nat → Int32} (hX : ScrOK g L xs) (hS : OutOK g) (hD : DgOK g) (hP : PvOK g) (h : CR c z M) (h2 : MR z M) (hO : ZOK c z) (hc : c < 512) (hl : 6 * c + 6 ≤ L) (hL : L ≤ 3072) {Q : Option Value → Mem → Prop} (Kc : ∀ z2 M2, ZOK (c + 1) z2 → CR (c + 1) z2 M2 → MR z2 M2 → Wp g (Y_La nm) 2048 1361 (laL c) [] M2 Q) : Wp g (Y_La nm) 2048 1279 (laL c) [] M Q := by
  obtain ⟨x, z2, hO2, hC, hMo⟩ : ∃ (x : Int32) (z2 : ST), ZOK (c + 1) z2 ∧ CaC g Y_Mc_image [.int (xs (6 * c + 1))] c M x z2 ∧ ∀ M2, MR z M2 → CaM g Y_Mo_image [.int (xs (6 * c + 1))] M2 x z2 := (b_image (g := g)).two c z M hc hO h
  refine wp_aload_n rfl (ck_get kk_La_21 7 rfl) ?_
  refine wp_aload_nX rfl (ck_get kk_La_21 8 rfl) ?_
  refine wp_iload_n rfl (ck_get kk_La_21 9 rfl) ?_
  refine wp_iconst (v := nI 1) (by decide) (ck_get kk_La_21 10 rfl) ?_
  refine wp_iaddN (ck_get kk_La_21 11 rfl) ?_
  refine wp_sald hX (ck_get kk_La_21 12 rfl) (ixk_nI (k := 6 * c + 1) (by omega) (by omega)) ?_
  refine wp_cV1i (ck_get kk_La_21 13 rfl) ml_La_175 (by omega) (Nat.le_of_ble_eq_true rfl) h.t0 (Ci.to hC ?_)
  rintro _ M2 ⟨rfl, hC2, hS2⟩
  have hM2 := h2.msame hS2
  refine wp_aload_n rfl (ck_get kk_La_21 14 rfl) ?_
  refine wp_aload_nX rfl (ck_get kk_La_21 15 rfl) ?_
  refine wp_iload_n rfl (ck_get kk_La_21 16 rfl) ?_
  refine wp_iconst (v := nI 1) (by decide) (ck_get kk_La_21 17 rfl) ?_
  refine wp_iaddN (ck_get kk_La_21 18 rfl) ?_
  refine wp_sald hX (ck_get kk_La_21 19 rfl) (ixk_nI (k := 6 * c + 1) (by omega) (by omega)) ?_
  refine wp_cV1i (ck_get kk_La_21 20 rfl) ml_La_178 (by omega) (Nat.le_of_ble_eq_true rfl) hM2.1.1 (Ci.to (hMo M2 hM2) ?_)
  rintro _ M3 ⟨rfl, hM3, hS3⟩
  exact wp_icmp_eq (t := 1361) (ck_get kk_La_21 21 rfl) (by decide) (fun _ => Kc z2 M3 hO2 (hC2.csame hS3) hM3) (fun q => absurd rfl q)
theorem lac_40 {c L : Nat} {z : ST} {xs : Nat → Int32} (hX : ScrOK g L xs) (hS : OutOK g) (hD : DgOK g) (hP : PvOK g) (h : CR c z M) (h2 : MR z M) (hO : ZOK c z) (hc : c < 512) (hl : 6 * c + 6 ≤ L) (hL : L ≤ 3072) {Q : Option Value → Mem → Prop} (Kc : ∀ z2 M2, ZOK (c + 1) z2 → CR (c + 1) z2 M2 → MR z2 M2 → Wp g (Y_La nm) 2048 1361 (laL c) [] M2 Q) : Wp g (Y_La nm) 2048 1302 (laL c) [] M Q := by
  obtain ⟨x, z2, hO2, hC, hMo⟩ : ∃ (x : Int32) (z2 : ST), ZOK (c + 1) z2 ∧ CaC g Y_Mc_back [.int (xs (6 * c + 1))] c M x z2 ∧ ∀ M2, MR z M2 → CaM g Y_Mo_back [.int (xs (6 * c + 1))] M2 x z2 := (b_back (g := g)).two c z M hc hO h
  refine wp_aload_n rfl (ck_get kk_La_21 24 rfl) ?_
  refine wp_aload_nX rfl (ck_get kk_La_21 25 rfl) ?_
  refine wp_iload_n rfl (ck_get kk_La_21 26 rfl) ?_
  refine wp_iconst (v := nI 1) (by decide) (ck_get kk_La_21 27 rfl) ?_
  refine wp_iaddN (ck_get kk_La_21 28 rfl) ?_
  refine wp_sald hX (ck_get kk_La_21 29 rfl) (ixk_nI (k := 6 * c + 1) (by omega) (by omega)) ?_
  refine wp_cV1i (ck_get kk_La_21 30 rfl) ml_La_179 (by omega) (Nat.le_of_ble_eq_true rfl) h.t0 (Ci.to hC ?_)
  rintro _ M2 ⟨rfl, hC2, hS2⟩
  have hM2 := h2.msame hS2
  refine wp_aload_n rfl (ck_get kk_La_21 31 rfl) ?_
  refine wp_aload_nX rfl (ck_get kk_La_21 32 rfl) ?_
  refine wp_iload_n rfl (ck_get kk_La_21 33 rfl) ?_
  refine wp_iconst (v := nI 1) (by decide) (ck_get kk_La_21 34 rfl) ?_
  refine wp_iaddN (ck_get kk_La_21 35 rfl) ?_
  refine wp_sald hX (ck_get kk_La_21 36 rfl) (ixk_nI (k := 6 * c + 1) (by omega) (by omega)) ?_
  refine wp_cV1i (ck_get kk_La_21 37 rfl) ml_La_182 (by omega) (Nat.le_of_ble_eq_true rfl) hM2.1.1 (Ci.to (hMo M2 hM2) ?_)
  rintro _ M3 ⟨rfl, hM3, hS3⟩
  exact wp_icmp_eq (t := 1361) (ck_get kk_La_21 38 rfl) (by decide) (fun _ => Kc z2 M3 hO2 (hC2.csame hS3) hM3) (fun q => absurd rfl q)
theorem lac_41 {c L : Nat} {z : ST} {xs : Nat → Int32} (hX : ScrOK g L xs) (hS : OutOK g) (hD : DgOK g) (hP : PvOK g) (h : CR c z M) (h2 : MR z M) (hO : ZOK c z) (hc : c < 512) (hl : 6 * c + 6 ≤ L) (hL : L ≤ 3072) {Q : Option Value → Mem → Prop} (Kc : ∀ z2 M2, ZOK (c + 1) z2 → CR (c + 1) z2 M2 → MR z2 M2 → Wp g (Y_La nm) 2048 1361 (laL c) [] M2 Q) : Wp g (Y_La nm) 2048 1325 (laL c) [] M Q := by
  obtain ⟨x, z2, hO2, hC, hMo⟩ : ∃ (x : Int32) (z2 : ST), ZOK (c + 1) z2 ∧ CaC g Y_Mc_count [.int (xs (6 * c + 1))] c M x z2 ∧ ∀ M2, MR z M2 → CaM g Y_Mo_count [.int (xs (6 * c + 1))] M2 x z2 := (b_count (g := g)).two c z M hc hO h
  refine wp_aload_n rfl (ck_get kk_La_22 1 rfl) ?_
  refine wp_aload_nX rfl (ck_get kk_La_22 2 rfl) ?_
  refine wp_iload_n rfl (ck_get kk_La_22 3 rfl) ?_
  refine wp_iconst (v := nI 1) (by decide) (ck_get kk_La_22 4 rfl) ?_
  refine wp_iaddN (ck_get kk_La_22 5 rfl) ?_
  refine wp_sald hX (ck_get kk_La_22 6 rfl) (ixk_nI (k := 6 * c + 1) (by omega) (by omega)) ?_
  refine wp_cV1i (ck_get kk_La_22 7 rfl) ml_La_183 (by omega) (Nat.le_of_ble_eq_true rfl) h.t0 (Ci.to hC ?_)
  rintro _ M2 ⟨rfl, hC2, hS2⟩
  have hM2 := h2.msame hS2
  refine wp_aload_n rfl (ck_get kk_La_22 8 rfl) ?_
  refine wp_aload_nX rfl (ck_get kk_La_22 9 rfl) ?_
  refine wp_iload_n rfl (ck_get kk_La_22 10 rfl) ?_
  refine wp_iconst (v := nI 1) (by decide) (ck_get kk_La_22 11 rfl) ?_
  refine wp_iaddN (ck_get kk_La_22 12 rfl) ?_
  refine wp_sald hX (ck_get kk_La_22 13 rfl) (ixk_nI (k := 6 * c + 1) (by omega) (by omega)) ?_
  refine wp_cV1i (ck_get kk_La_22 14 rfl) ml_La_186 (by omega) (Nat.le_of_ble_eq_true rfl) hM2.1.1 (Ci.to (hMo M2 hM2) ?_)
  rintro _ M3 ⟨rfl, hM3, hS3⟩
  exact wp_icmp_eq (t := 1361) (ck_get kk_La_22 15 rfl) (by decide) (fun _ => Kc z2 M3 hO2 (hC2.csame hS3) hM3) (fun q => absurd rfl q)
theorem lac_42 {c L : Nat} {z : ST} {xs : Nat → Int32} (hX : ScrOK g L xs) (hS : OutOK g) (hD : DgOK g) (hP : PvOK g) (h : CR c z M) (h2 : MR z M) (hO : ZOK c z) (hc : c < 512) (hl : 6 * c + 6 ≤ L) (hL : L ≤ 3072) {Q : Option Value → Mem → Prop} (Kc : ∀ z2 M2, ZOK (c + 1) z2 → CR (c + 1) z2 M2 → MR z2 M2 → Wp g (Y_La nm) 2048 1361 (laL c) [] M2 Q) : Wp g (Y_La nm) 2048 1348 (laL c) [] M Q := by
  obtain ⟨x, z2, hO2, hC, hMo⟩ : ∃ (x : Int32) (z2 : ST), ZOK (c + 1) z2 ∧ CaC g Y_Mc_status [] c M x z2 ∧ ∀ M2, MR z M2 → CaM g Y_Mo_status [] M2 x z2 := (b_status (g := g)).two c z M hc hO h
  refine wp_aload_n rfl (ck_get kk_La_22 18 rfl) ?_
  refine wp_cV0i (ck_get kk_La_22 19 rfl) ml_La_187 (by omega) (Nat.le_of_ble_eq_true rfl) h.t0 (Ci.to hC ?_)
  rintro _ M2 ⟨rfl, hC2, hS2⟩
  have hM2 := h2.msame hS2
  refine wp_aload_n rfl (ck_get kk_La_22 20 rfl) ?_
  refine wp_cV0i (ck_get kk_La_22 21 rfl) ml_La_190 (by omega) (Nat.le_of_ble_eq_true rfl) hM2.1.1 (Ci.to (hMo M2 hM2) ?_)
  rintro _ M3 ⟨rfl, hM3, hS3⟩
  exact wp_icmp_eq (t := 1361) (ck_get kk_La_22 22 rfl) (by decide) (fun _ => Kc z2 M3 hO2 (hC2.csame hS3) hM3) (fun q => absurd rfl q)
theorem la_loop {L : Nat} {xs : Nat → Int32} (hX : ScrOK g L xs) (hS : OutOK g) (hD : DgOK g) (hP : PvOK g) (hL : L ≤ 3072) : ∀ k c z M, c + k = 512 → 6 * c ≤ L → ZOK c z → CR c z M → MR z M → Wp g (Y_La nm) 2048 18 (laL c) [] M laQ := by
  intro k
  induction k with
  | zero =>
    intro c z M hk hl hO h h2
    obtain rfl : c = 512 := by omega
    have hq : laQ (some (.int (nI 1))) M := by
      obtain ⟨pf, pg, -, -, -, -, -, -, -, -, z1, z2, z3, z4⟩ := h
      exact ⟨rfl, by omega, by omega⟩
    by_cases h6 : 6 ≤ L
    · refine wp_iload_n rfl (ck_get kk_La_0 10 rfl) ?_
      refine wp_aload_nX rfl (ck_get kk_La_0 11 rfl) ?_
      refine wp_slen hX (ck_get kk_La_0 12 rfl) ?_
      refine wp_bipush (v := nI 6) (by decide) (ck_get kk_La_0 13 rfl) ?_
      refine wp_isubN (ck_get kk_La_0 14 rfl) (by omega) ?_
      refine wp_icmp_gtN (t := 1367) (ck_get kk_La_0 15 rfl) (by decide) (by omega) (by omega) (fun _ => ?_) (fun q => by omega)
      refine wp_iconst (v := nI 1) (by decide) (ck_get kk_La_22 27 rfl) ?_
      exact wp_ireturn (ck_get kk_La_22 28 rfl) rfl rfl hq
    · omega
  | succ k ih =>
    intro c z M hk hl hO h h2
    by_cases hg : 6 * c + 6 ≤ L
    · have hst : ∀ z2 M2, ZOK (c + 1) z2 → CR (c + 1) z2 M2 → MR z2 M2 → Wp g (Y_La nm) 2048 1361 (laL c) [] M2 laQ := by
        intro z2 M2 q1 q2 q3
        refine wp_iinc (ck_get kk_La_22 25 rfl) rfl (show 3 < 4 by decide) rfl ?_
        refine wp_goto (t := 18) (ck_get kk_La_22 26 rfl) (by decide) ?_
        show Wp g (Y_La nm) 2048 18 [some (.retAddr 0), some (.ref 0), some (.ref 1020), some (.int (nI (6 * c) + Int32.ofInt 6))] [] M2 laQ
        rw [show nI (6 * c) + Int32.ofInt 6 = nI (6 * (c + 1)) from (Int32.ofNat_add (6 * c) 6).symm]
        exact ih (c + 1) z2 M2 (by omega) (by omega) q1 q2 q3
      refine wp_iload_n rfl (ck_get kk_La_0 10 rfl) ?_
      refine wp_aload_nX rfl (ck_get kk_La_0 11 rfl) ?_
      refine wp_slen hX (ck_get kk_La_0 12 rfl) ?_
      refine wp_bipush (v := nI 6) (by decide) (ck_get kk_La_0 13 rfl) ?_
      refine wp_isubN (ck_get kk_La_0 14 rfl) (by omega) ?_
      refine wp_icmp_gtN (t := 1367) (ck_get kk_La_0 15 rfl) (by decide) (by omega) (by omega) (fun q => by omega) (fun _ => ?_)
      refine wp_aload_nX rfl (ck_get kk_La_0 16 rfl) ?_
      refine wp_iload_n rfl (ck_get kk_La_0 17 rfl) ?_
      refine wp_sald hX (ck_get kk_La_0 18 rfl) (ixk_nI (k := 6 * c) (by omega) (by omega)) ?_
      refine wp_bipush (v := nI 63) (by decide) (ck_get kk_La_0 19 rfl) ?_
      refine wp_iand (ck_get kk_La_0 20 rfl) ?_
      obtain ⟨d, hd, ed⟩ := and63 (xs (6 * c))
      rw [ed]
      rcases (show d = 0 ∨ d = 1 ∨ d = 2 ∨ d = 3 ∨ d = 4 ∨ d = 5 ∨ d = 6 ∨ d = 7 ∨ d = 8 ∨ d = 9 ∨ d = 10 ∨ d = 11 ∨ d = 12 ∨ d = 13 ∨ d = 14 ∨ d = 15 ∨ d = 16 ∨ d = 17 ∨ d = 18 ∨ d = 19 ∨ d = 20 ∨ d = 21 ∨ d = 22 ∨ d = 23 ∨ d = 24 ∨ d = 25 ∨ d = 26 ∨ d = 27 ∨ d = 28 ∨ d = 29 ∨ d = 30 ∨ d = 31 ∨ d = 32 ∨ d = 33 ∨ d = 34 ∨ d = 35 ∨ d = 36 ∨ d = 37 ∨ d = 38 ∨ d = 39 ∨ d = 40 ∨ d = 41 ∨ d = 42 ∨ 43 ≤ d by omega) with rfl | rfl | rfl | rfl | rfl | rfl | rfl | rfl | rfl | rfl | rfl | rfl | rfl | rfl | rfl | rfl | rfl | rfl | rfl | rfl | rfl | rfl | rfl | rfl | rfl | rfl | rfl | rfl | rfl | rfl | rfl | rfl | rfl | rfl | rfl | rfl | rfl | rfl | rfl | rfl | rfl | rfl | rfl | hd2
      · exact wp_tabIn (t := 220) (off := 187) (ck_get kk_La_0 21 rfl) (by decide) (by decide) rfl (by decide) (lac_0 hX hS hD hP h h2 hO (by omega) hg hL hst)
      · exact wp_tabIn (t := 253) (off := 220) (ck_get kk_La_0 21 rfl) (by decide) (by decide) rfl (by decide) (lac_1 hX hS hD hP h h2 hO (by omega) hg hL hst)
      · exact wp_tabIn (t := 286) (off := 253) (ck_get kk_La_0 21 rfl) (by decide) (by decide) rfl (by decide) (lac_2 hX hS hD hP h h2 hO (by omega) hg hL hst)
      · exact wp_tabIn (t := 329) (off := 296) (ck_get kk_La_0 21 rfl) (by decide) (by decide) rfl (by decide) (lac_3 hX hS hD hP h h2 hO (by omega) hg hL hst)
      · exact wp_tabIn (t := 362) (off := 329) (ck_get kk_La_0 21 rfl) (by decide) (by decide) rfl (by decide) (lac_4 hX hS hD hP h h2 hO (by omega) hg hL hst)
      · exact wp_tabIn (t := 425) (off := 392) (ck_get kk_La_0 21 rfl) (by decide) (by decide) rfl (by decide) (lac_5 hX hS hD hP h h2 hO (by omega) hg hL hst)
      · exact wp_tabIn (t := 448) (off := 415) (ck_get kk_La_0 21 rfl) (by decide) (by decide) rfl (by decide) (lac_6 hX hS hD hP h h2 hO (by omega) hg hL hst)
      · exact wp_tabIn (t := 461) (off := 428) (ck_get kk_La_0 21 rfl) (by decide) (by decide) rfl (by decide) (lac_7 hX hS hD hP h h2 hO (by omega) hg hL hst)
      · exact wp_tabIn (t := 474) (off := 441) (ck_get kk_La_0 21 rfl) (by decide) (by decide) rfl (by decide) (lac_8 hX hS hD hP h h2 hO (by omega) hg hL hst)
      · exact wp_tabIn (t := 487) (off := 454) (ck_get kk_La_0 21 rfl) (by decide) (by decide) rfl (by decide) (lac_9 hX hS hD hP h h2 hO (by omega) hg hL hst)
      · exact wp_tabIn (t := 500) (off := 467) (ck_get kk_La_0 21 rfl) (by decide) (by decide) rfl (by decide) (lac_10 hX hS hD hP h h2 hO (by omega) hg hL hst)
      · exact wp_tabIn (t := 513) (off := 480) (ck_get kk_La_0 21 rfl) (by decide) (by decide) rfl (by decide) (lac_11 hX hS hD hP h h2 hO (by omega) hg hL hst)
      · exact wp_tabIn (t := 526) (off := 493) (ck_get kk_La_0 21 rfl) (by decide) (by decide) rfl (by decide) (lac_12 hX hS hD hP h h2 hO (by omega) hg hL hst)
      · exact wp_tabIn (t := 539) (off := 506) (ck_get kk_La_0 21 rfl) (by decide) (by decide) rfl (by decide) (lac_13 hX hS hD hP h h2 hO (by omega) hg hL hst)
      · exact wp_tabIn (t := 562) (off := 529) (ck_get kk_La_0 21 rfl) (by decide) (by decide) rfl (by decide) (lac_14 hX hS hD hP h h2 hO (by omega) hg hL hst)
      · exact wp_tabIn (t := 595) (off := 562) (ck_get kk_La_0 21 rfl) (by decide) (by decide) rfl (by decide) (lac_15 hX hS hD hP h h2 hO (by omega) hg hL hst)
      · exact wp_tabIn (t := 638) (off := 605) (ck_get kk_La_0 21 rfl) (by decide) (by decide) rfl (by decide) (lac_16 hX hS hD hP h h2 hO (by omega) hg hL hst)
      · exact wp_tabIn (t := 671) (off := 638) (ck_get kk_La_0 21 rfl) (by decide) (by decide) rfl (by decide) (lac_17 hX hS hD hP h h2 hO (by omega) hg hL hst)
      · exact wp_tabIn (t := 684) (off := 651) (ck_get kk_La_0 21 rfl) (by decide) (by decide) rfl (by decide) (lac_18 hX hS hD hP h h2 hO (by omega) hg hL hst)
      · exact wp_tabIn (t := 697) (off := 664) (ck_get kk_La_0 21 rfl) (by decide) (by decide) rfl (by decide) (lac_19 hX hS hD hP h h2 hO (by omega) hg hL hst)
      · exact wp_tabIn (t := 730) (off := 697) (ck_get kk_La_0 21 rfl) (by decide) (by decide) rfl (by decide) (lac_20 hX hS hD hP h h2 hO (by omega) hg hL hst)
      · exact wp_tabIn (t := 764) (off := 731) (ck_get kk_La_0 21 rfl) (by decide) (by decide) rfl (by decide) (lac_21 hX hS hD hP h h2 hO (by omega) hg hL hst)
      · exact wp_tabIn (t := 797) (off := 764) (ck_get kk_La_0 21 rfl) (by decide) (by decide) rfl (by decide) (lac_22 hX hS hD hP h h2 hO (by omega) hg hL hst)
      · exact wp_tabIn (t := 820) (off := 787) (ck_get kk_La_0 21 rfl) (by decide) (by decide) rfl (by decide) (lac_23 hX hS hD hP h h2 hO (by omega) hg hL hst)
      · exact wp_tabIn (t := 843) (off := 810) (ck_get kk_La_0 21 rfl) (by decide) (by decide) rfl (by decide) (lac_24 hX hS hD hP h h2 hO (by omega) hg hL hst)
      · exact wp_tabIn (t := 876) (off := 843) (ck_get kk_La_0 21 rfl) (by decide) (by decide) rfl (by decide) (lac_25 hX hS hD hP h h2 hO (by omega) hg hL hst)
      · exact wp_tabIn (t := 909) (off := 876) (ck_get kk_La_0 21 rfl) (by decide) (by decide) rfl (by decide) (lac_26 hX hS hD hP h h2 hO (by omega) hg hL hst)
      · exact wp_tabIn (t := 942) (off := 909) (ck_get kk_La_0 21 rfl) (by decide) (by decide) rfl (by decide) (lac_27 hX hS hD hP h h2 hO (by omega) hg hL hst)
      · exact wp_tabIn (t := 975) (off := 942) (ck_get kk_La_0 21 rfl) (by decide) (by decide) rfl (by decide) (lac_28 hX hS hD hP h h2 hO (by omega) hg hL hst)
      · exact wp_tabIn (t := 1008) (off := 975) (ck_get kk_La_0 21 rfl) (by decide) (by decide) rfl (by decide) (lac_29 hX hS hD hP h h2 hO (by omega) hg hL hst)
      · exact wp_tabIn (t := 1031) (off := 998) (ck_get kk_La_0 21 rfl) (by decide) (by decide) rfl (by decide) (lac_30 hX hS hD hP h h2 hO (by omega) hg hL hst)
      · exact wp_tabIn (t := 1054) (off := 1021) (ck_get kk_La_0 21 rfl) (by decide) (by decide) rfl (by decide) (lac_31 hX hS hD hP h h2 hO (by omega) hg hL hst)
      · exact wp_tabIn (t := 1087) (off := 1054) (ck_get kk_La_0 21 rfl) (by decide) (by decide) rfl (by decide) (lac_32 hX hS hD hP h h2 hO (by omega) hg hL hst)
      · exact wp_tabIn (t := 1100) (off := 1067) (ck_get kk_La_0 21 rfl) (by decide) (by decide) rfl (by decide) (lac_33 hX hS hD hP h h2 hO (by omega) hg hL hst)
      · exact wp_tabIn (t := 1113) (off := 1080) (ck_get kk_La_0 21 rfl) (by decide) (by decide) rfl (by decide) (lac_34 hX hS hD hP h h2 hO (by omega) hg hL hst)
      · exact wp_tabIn (t := 1136) (off := 1103) (ck_get kk_La_0 21 rfl) (by decide) (by decide) rfl (by decide) (lac_35 hX hS hD hP h h2 hO (by omega) hg hL hst)
      · exact wp_tabIn (t := 1170) (off := 1137) (ck_get kk_La_0 21 rfl) (by decide) (by decide) rfl (by decide) (lac_36 hX hS hD hP h h2 hO (by omega) hg hL hst)
      · exact wp_tabIn (t := 1213) (off := 1180) (ck_get kk_La_0 21 rfl) (by decide) (by decide) rfl (by decide) (lac_37 hX hS hD hP h h2 hO (by omega) hg hL hst)
      · exact wp_tabIn (t := 1246) (off := 1213) (ck_get kk_La_0 21 rfl) (by decide) (by decide) rfl (by decide) (lac_38 hX hS hD hP h h2 hO (by omega) hg hL hst)
      · exact wp_tabIn (t := 1279) (off := 1246) (ck_get kk_La_0 21 rfl) (by decide) (by decide) rfl (by decide) (lac_39 hX hS hD hP h h2 hO (by omega) hg hL hst)
      · exact wp_tabIn (t := 1302) (off := 1269) (ck_get kk_La_0 21 rfl) (by decide) (by decide) rfl (by decide) (lac_40 hX hS hD hP h h2 hO (by omega) hg hL hst)
      · exact wp_tabIn (t := 1325) (off := 1292) (ck_get kk_La_0 21 rfl) (by decide) (by decide) rfl (by decide) (lac_41 hX hS hD hP h h2 hO (by omega) hg hL hst)
      · exact wp_tabIn (t := 1348) (off := 1315) (ck_get kk_La_0 21 rfl) (by decide) (by decide) rfl (by decide) (lac_42 hX hS hD hP h h2 hO (by omega) hg hL hst)
      · exact wp_tabOut (t := 1361) (ck_get kk_La_0 21 rfl) (Or.inr (by rw [nI_toInt (by omega)]; omega)) (by decide) (hst z M (hO.le (Nat.le_succ c)) (h.le (Nat.le_succ c)) h2)
    · skip
      have hq : laQ (some (.int (nI 1))) M := by
        obtain ⟨pf, pg, -, -, -, -, -, -, -, -, z1, z2, z3, z4⟩ := h
        exact ⟨rfl, by omega, by omega⟩
      by_cases h6 : 6 ≤ L
      · refine wp_iload_n rfl (ck_get kk_La_0 10 rfl) ?_
        refine wp_aload_nX rfl (ck_get kk_La_0 11 rfl) ?_
        refine wp_slen hX (ck_get kk_La_0 12 rfl) ?_
        refine wp_bipush (v := nI 6) (by decide) (ck_get kk_La_0 13 rfl) ?_
        refine wp_isubN (ck_get kk_La_0 14 rfl) (by omega) ?_
        refine wp_icmp_gtN (t := 1367) (ck_get kk_La_0 15 rfl) (by decide) (by omega) (by omega) (fun _ => ?_) (fun q => by omega)
        refine wp_iconst (v := nI 1) (by decide) (ck_get kk_La_22 27 rfl) ?_
        exact wp_ireturn (ck_get kk_La_22 28 rfl) rfl rfl hq
      · obtain rfl : c = 0 := by omega
        refine wp_iload_n rfl (ck_get kk_La_0 10 rfl) ?_
        refine wp_aload_nX rfl (ck_get kk_La_0 11 rfl) ?_
        refine wp_slen hX (ck_get kk_La_0 12 rfl) ?_
        refine wp_bipush (v := nI 6) (by decide) (ck_get kk_La_0 13 rfl) ?_
        refine wp_isub (ck_get kk_La_0 14 rfl) ?_
        refine wp_icmp_gt (t := 1367) (ck_get kk_La_0 15 rfl) (by decide) (fun _ => ?_) (fun q => absurd (nI_sub_neg (by decide) (by omega)) q)
        refine wp_iconst (v := nI 1) (by decide) (ck_get kk_La_22 27 rfl) ?_
        exact wp_ireturn (ck_get kk_La_22 28 rfl) rfl rfl hq
theorem la_start {L : Nat} {xs : Nat → Int32} (hX : ScrOK g L xs) (hS : OutOK g) (hD : DgOK g) (hP : PvOK g) (hL : L ≤ 3072) : Wp g (Y_La nm) 2048 0 [some (.retAddr 0), none, none, none] [] (ofL []) laQ := by
  refine wp_new (ck_get kk_La_0 0 rfl) cl_La_7 ?_
  rw [ofL_new]
  refine wp_dup rfl (ck_get kk_La_0 1 rfl) ?_
  refine wp_cI0v (ck_get kk_La_0 2 rfl) ml_La_9 (by omega) (Nat.le_of_ble_eq_true rfl) (Cv.to (i_Mc hS.1) ?_)
  rintro M1 rfl
  refine wp_astore_n (ck_get kk_La_0 3 rfl) (show 1 < 4 by decide) rfl ?_
  refine wp_new (ck_get kk_La_0 4 rfl) cl_La_10 ?_
  rw [show mZ (ofL mcC) = 1020 from mcC_len, ofL_new]
  refine wp_dup rfl (ck_get kk_La_0 5 rfl) ?_
  refine wp_cI0v (ck_get kk_La_0 6 rfl) ml_La_12 (by omega) (Nat.le_of_ble_eq_true rfl) (Cv.to (i_Mo mcC_len) ?_)
  rintro M1 ⟨f, hf, rfl⟩
  refine wp_astore_n (ck_get kk_La_0 7 rfl) (show 2 < 4 by decide) rfl ?_
  refine wp_iconst (v := nI 0) (by decide) (ck_get kk_La_0 8 rfl) ?_
  refine wp_istore_n (ck_get kk_La_0 9 rfl) (show 3 < 4 by decide) rfl ?_
  have hs := start_ok hf
  exact la_loop hX hS hD hP hL 512 0 z0 _ rfl (Nat.zero_le _) z0_ok hs.1 hs.2
end LAW
