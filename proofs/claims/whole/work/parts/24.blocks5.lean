def zk_m_new : List zz_E := [(0, false, .aload_n 0, 1, 0, (0, 0, 0, 0), 0, []),
  (1, false, .invokespecial 1, 3, 793, (0, 0, 0, 0), 0, []),
  (4, false, .aload_n 0, 1, 0, (0, 0, 0, 0), 0, []),
  (5, false, .iconst (-1), 1, 0, (0, 0, 0, 0), 0, []),
  (6, false, .putfield 7, 3, 796, (40, 2, 0, 0), 0, []),
  (9, false, .aload_n 0, 1, 0, (0, 0, 0, 0), 0, []),
  (10, false, .iconst 1, 1, 0, (0, 0, 0, 0), 0, []),
  (11, false, .putfield 13, 3, 798, (40, 4, 0, 0), 0, []),
  (14, false, .aload_n 0, 1, 0, (0, 0, 0, 0), 0, []),
  (15, false, .bipush 8, 2, 0, (0, 0, 0, 0), 0, []),
  (17, false, .newarray .int, 2, 0, (41, 0, 0, 0), 0, []),
  (19, false, .putfield 16, 3, 799, (40, 5, 43, 1), 0, []),
  (22, false, .aload_n 0, 1, 0, (0, 0, 0, 0), 0, []),
  (23, false, .bipush 8, 2, 0, (0, 0, 0, 0), 0, []),
  (25, false, .newarray .int, 2, 0, (42, 0, 0, 0), 0, []),
  (27, false, .putfield 20, 3, 800, (40, 6, 44, 1), 0, []),
  (30, false, .aload_n 0, 1, 0, (0, 0, 0, 0), 0, []),
  (31, false, .bipush 8, 2, 0, (0, 0, 0, 0), 0, []),
  (33, false, .newarray .int, 2, 0, (43, 0, 0, 0), 0, []),
  (35, false, .putfield 23, 3, 802, (40, 8, 45, 1), 0, []),
  (38, false, .aload_n 0, 1, 0, (0, 0, 0, 0), 0, []),
  (39, false, .bipush 60, 2, 0, (0, 0, 0, 0), 0, []),
  (41, false, .newarray .int, 2, 0, (44, 0, 0, 0), 0, []),
  (43, false, .putfield 26, 3, 804, (40, 10, 46, 1), 0, []),
  (46, true, .aload_n 0, 1, 0, (0, 0, 0, 0), 0, []),
  (47, false, .bipush 60, 2, 0, (0, 0, 0, 0), 0, []),
  (49, false, .newarray .int, 2, 0, (45, 0, 0, 0), 0, []),
  (51, false, .putfield 29, 3, 805, (40, 11, 47, 1), 0, []),
  (54, false, .aload_n 0, 1, 0, (0, 0, 0, 0), 0, []),
  (55, false, .bipush 60, 2, 0, (0, 0, 0, 0), 0, []),
  (57, false, .newarray .int, 2, 0, (46, 0, 0, 0), 0, []),
  (59, false, .putfield 32, 3, 806, (40, 12, 48, 1), 0, []),
  (62, false, .aload_n 0, 1, 0, (0, 0, 0, 0), 0, []),
  (63, false, .bipush 60, 2, 0, (0, 0, 0, 0), 0, []),
  (65, false, .newarray .int, 2, 0, (47, 0, 0, 0), 0, []),
  (67, false, .putfield 35, 3, 807, (40, 13, 49, 1), 0, []),
  (70, false, .aload_n 0, 1, 0, (0, 0, 0, 0), 0, []),
  (71, false, .bipush 60, 2, 0, (0, 0, 0, 0), 0, []),
  (73, false, .newarray .int, 2, 0, (48, 0, 0, 0), 0, []),
  (75, false, .putfield 38, 3, 808, (40, 14, 50, 1), 0, []),
  (78, false, .aload_n 0, 1, 0, (0, 0, 0, 0), 0, []),
  (79, false, .bipush 60, 2, 0, (0, 0, 0, 0), 0, []),
  (81, false, .newarray .int, 2, 0, (49, 0, 0, 0), 0, []),
  (83, false, .putfield 41, 3, 809, (40, 15, 51, 1), 0, []),
  (86, false, .aload_n 0, 1, 0, (0, 0, 0, 0), 0, []),
  (87, false, .bipush 60, 2, 0, (0, 0, 0, 0), 0, []),
  (89, false, .newarray .int, 2, 0, (50, 0, 0, 0), 0, []),
  (91, false, .putfield 44, 3, 810, (40, 16, 52, 1), 0, []),
  (94, true, .aload_n 0, 1, 0, (0, 0, 0, 0), 0, []),
  (95, false, .bipush 60, 2, 0, (0, 0, 0, 0), 0, []),
  (97, false, .newarray .int, 2, 0, (51, 0, 0, 0), 0, []),
  (99, false, .putfield 47, 3, 811, (40, 17, 53, 1), 0, []),
  (102, false, .aload_n 0, 1, 0, (0, 0, 0, 0), 0, []),
  (103, false, .bipush 60, 2, 0, (0, 0, 0, 0), 0, []),
  (105, false, .newarray .int, 2, 0, (52, 0, 0, 0), 0, []),
  (107, false, .putfield 50, 3, 812, (40, 18, 54, 1), 0, []),
  (110, false, .aload_n 0, 1, 0, (0, 0, 0, 0), 0, []),
  (111, false, .bipush 60, 2, 0, (0, 0, 0, 0), 0, []),
  (113, false, .newarray .int, 2, 0, (53, 0, 0, 0), 0, []),
  (115, false, .putfield 53, 3, 813, (40, 19, 55, 1), 0, []),
  (118, false, .aload_n 0, 1, 0, (0, 0, 0, 0), 0, []),
  (119, false, .bipush 60, 2, 0, (0, 0, 0, 0), 0, []),
  (121, false, .newarray .int, 2, 0, (54, 0, 0, 0), 0, []),
  (123, false, .putfield 56, 3, 814, (40, 20, 56, 1), 0, []),
  (126, false, .aload_n 0, 1, 0, (0, 0, 0, 0), 0, []),
  (127, false, .bipush 60, 2, 0, (0, 0, 0, 0), 0, []),
  (129, false, .newarray .int, 2, 0, (55, 0, 0, 0), 0, []),
  (131, false, .putfield 59, 3, 815, (40, 21, 57, 1), 0, []),
  (134, false, .aload_n 0, 1, 0, (0, 0, 0, 0), 0, []),
  (135, false, .bipush 60, 2, 0, (0, 0, 0, 0), 0, []),
  (137, false, .newarray .int, 2, 0, (56, 0, 0, 0), 0, []),
  (139, false, .putfield 62, 3, 816, (40, 22, 58, 1), 0, []),
  (142, true, .aload_n 0, 1, 0, (0, 0, 0, 0), 0, []),
  (143, false, .bipush 60, 2, 0, (0, 0, 0, 0), 0, []),
  (145, false, .newarray .int, 2, 0, (57, 0, 0, 0), 0, []),
  (147, false, .putfield 65, 3, 817, (40, 23, 59, 1), 0, []),
  (150, false, .aload_n 0, 1, 0, (0, 0, 0, 0), 0, []),
  (151, false, .bipush 60, 2, 0, (0, 0, 0, 0), 0, []),
  (153, false, .newarray .int, 2, 0, (58, 0, 0, 0), 0, []),
  (155, false, .putfield 68, 3, 818, (40, 24, 60, 1), 0, []),
  (158, false, .aload_n 0, 1, 0, (0, 0, 0, 0), 0, []),
  (159, false, .bipush 60, 2, 0, (0, 0, 0, 0), 0, []),
  (161, false, .newarray .int, 2, 0, (59, 0, 0, 0), 0, []),
  (163, false, .putfield 71, 3, 819, (40, 25, 61, 1), 0, []),
  (166, false, .aload_n 0, 1, 0, (0, 0, 0, 0), 0, []),
  (167, false, .bipush 60, 2, 0, (0, 0, 0, 0), 0, []),
  (169, false, .newarray .int, 2, 0, (60, 0, 0, 0), 0, []),
  (171, false, .putfield 74, 3, 820, (40, 26, 62, 1), 0, []),
  (174, false, .aload_n 0, 1, 0, (0, 0, 0, 0), 0, []),
  (175, false, .bipush 60, 2, 0, (0, 0, 0, 0), 0, []),
  (177, false, .newarray .int, 2, 0, (61, 0, 0, 0), 0, []),
  (179, false, .putfield 77, 3, 821, (40, 27, 63, 1), 0, []),
  (182, false, .aload_n 0, 1, 0, (0, 0, 0, 0), 0, []),
  (183, false, .bipush 60, 2, 0, (0, 0, 0, 0), 0, []),
  (185, false, .newarray .boolean, 2, 0, (62, 0, 0, 0), 0, []),
  (187, false, .putfield 80, 3, 822, (40, 28, 64, 1), 0, []),
  (190, true, .aload_n 0, 1, 0, (0, 0, 0, 0), 0, []),
  (191, false, .bipush 60, 2, 0, (0, 0, 0, 0), 0, []),
  (193, false, .newarray .boolean, 2, 0, (63, 0, 0, 0), 0, []),
  (195, false, .putfield 84, 3, 823, (40, 29, 65, 1), 0, []),
  (198, false, .aload_n 0, 1, 0, (0, 0, 0, 0), 0, []),
  (199, false, .bipush 60, 2, 0, (0, 0, 0, 0), 0, []),
  (201, false, .newarray .int, 2, 0, (64, 0, 0, 0), 0, []),
  (203, false, .putfield 87, 3, 824, (40, 30, 66, 1), 0, []),
  (206, false, .aload_n 0, 1, 0, (0, 0, 0, 0), 0, []),
  (207, false, .sipush 240, 3, 0, (0, 0, 0, 0), 0, []),
  (210, false, .newarray .int, 2, 0, (65, 0, 0, 0), 0, []),
  (212, false, .putfield 90, 3, 825, (40, 31, 67, 1), 0, []),
  (215, false, .aload_n 0, 1, 0, (0, 0, 0, 0), 0, []),
  (216, false, .sipush 240, 3, 0, (0, 0, 0, 0), 0, []),
  (219, false, .newarray .int, 2, 0, (66, 0, 0, 0), 0, []),
  (221, false, .putfield 93, 3, 826, (40, 32, 68, 1), 0, []),
  (224, false, .aload_n 0, 1, 0, (0, 0, 0, 0), 0, []),
  (225, false, .sipush 240, 3, 0, (0, 0, 0, 0), 0, []),
  (228, false, .newarray .int, 2, 0, (67, 0, 0, 0), 0, []),
  (230, false, .putfield 96, 3, 827, (40, 33, 69, 1), 0, []),
  (233, false, .aload_n 0, 1, 0, (0, 0, 0, 0), 0, []),
  (234, false, .bipush 60, 2, 0, (0, 0, 0, 0), 0, []),
  (236, false, .newarray .int, 2, 0, (68, 0, 0, 0), 0, []),
  (238, false, .putfield 99, 3, 828, (40, 34, 70, 1), 0, []),
  (241, true, .aload_n 0, 1, 0, (0, 0, 0, 0), 0, []),
  (242, false, .sipush 240, 3, 0, (0, 0, 0, 0), 0, []),
  (245, false, .newarray .int, 2, 0, (69, 0, 0, 0), 0, []),
  (247, false, .putfield 102, 3, 829, (40, 35, 71, 1), 0, []),
  (250, false, .aload_n 0, 1, 0, (0, 0, 0, 0), 0, []),
  (251, false, .sipush 240, 3, 0, (0, 0, 0, 0), 0, []),
  (254, false, .newarray .int, 2, 0, (70, 0, 0, 0), 0, []),
  (256, false, .putfield 105, 3, 830, (40, 36, 72, 1), 0, []),
  (259, false, .aload_n 0, 1, 0, (0, 0, 0, 0), 0, []),
  (260, false, .bipush 40, 2, 0, (0, 0, 0, 0), 0, []),
  (262, false, .newarray .int, 2, 0, (71, 0, 0, 0), 0, []),
  (264, false, .putfield 108, 3, 832, (40, 38, 73, 1), 0, []),
  (267, false, .aload_n 0, 1, 0, (0, 0, 0, 0), 0, []),
  (268, false, .bipush 40, 2, 0, (0, 0, 0, 0), 0, []),
  (270, false, .newarray .int, 2, 0, (72, 0, 0, 0), 0, []),
  (272, false, .putfield 111, 3, 833, (40, 39, 74, 1), 0, []),
  (275, false, .aload_n 0, 1, 0, (0, 0, 0, 0), 0, []),
  (276, false, .bipush 40, 2, 0, (0, 0, 0, 0), 0, []),
  (278, false, .newarray .int, 2, 0, (73, 0, 0, 0), 0, []),
  (280, false, .putfield 114, 3, 834, (40, 40, 75, 1), 0, []),
  (283, false, .aload_n 0, 1, 0, (0, 0, 0, 0), 0, []),
  (284, false, .bipush 8, 2, 0, (0, 0, 0, 0), 0, []),
  (286, false, .newarray .int, 2, 0, (74, 0, 0, 0), 0, []),
  (288, false, .putfield 117, 3, 835, (40, 41, 76, 1), 0, []),
  (291, true, .aload_n 0, 1, 0, (0, 0, 0, 0), 0, []),
  (292, false, .sipush 2000, 3, 0, (0, 0, 0, 0), 0, []),
  (295, false, .newarray .int, 2, 0, (75, 0, 0, 0), 0, []),
  (297, false, .putfield 120, 3, 837, (40, 43, 77, 1), 0, []),
  (300, false, .aload_n 0, 1, 0, (0, 0, 0, 0), 0, []),
  (301, false, .sipush 2000, 3, 0, (0, 0, 0, 0), 0, []),
  (304, false, .newarray .int, 2, 0, (76, 0, 0, 0), 0, []),
  (306, false, .putfield 123, 3, 838, (40, 44, 78, 1), 0, []),
  (309, false, .aload_n 0, 1, 0, (0, 0, 0, 0), 0, []),
  (310, false, .sipush 2000, 3, 0, (0, 0, 0, 0), 0, []),
  (313, false, .newarray .int, 2, 0, (77, 0, 0, 0), 0, []),
  (315, false, .putfield 126, 3, 839, (40, 45, 79, 1), 0, []),
  (318, false, .aload_n 0, 1, 0, (0, 0, 0, 0), 0, []),
  (319, false, .sipush 2000, 3, 0, (0, 0, 0, 0), 0, []),
  (322, false, .newarray .int, 2, 0, (78, 0, 0, 0), 0, []),
  (324, false, .putfield 129, 3, 840, (40, 46, 80, 1), 0, []),
  (327, false, .aload_n 0, 1, 0, (0, 0, 0, 0), 0, []),
  (328, false, .sipush 2000, 3, 0, (0, 0, 0, 0), 0, []),
  (331, false, .newarray .int, 2, 0, (79, 0, 0, 0), 0, []),
  (333, false, .putfield 132, 3, 841, (40, 47, 81, 1), 0, []),
  (336, false, .aload_n 0, 1, 0, (0, 0, 0, 0), 0, []),
  (337, false, .sipush 2000, 3, 0, (0, 0, 0, 0), 0, []),
  (340, false, .newarray .int, 2, 0, (80, 0, 0, 0), 0, []),
  (342, false, .putfield 135, 3, 842, (40, 48, 82, 1), 0, []),
  (345, true, .aload_n 0, 1, 0, (0, 0, 0, 0), 0, []),
  (346, false, .sipush 2000, 3, 0, (0, 0, 0, 0), 0, []),
  (349, false, .newarray .int, 2, 0, (81, 0, 0, 0), 0, []),
  (351, false, .putfield 138, 3, 843, (40, 49, 83, 1), 0, []),
  (354, false, .aload_n 0, 1, 0, (0, 0, 0, 0), 0, []),
  (355, false, .sipush 2000, 3, 0, (0, 0, 0, 0), 0, []),
  (358, false, .newarray .int, 2, 0, (82, 0, 0, 0), 0, []),
  (360, false, .putfield 141, 3, 844, (40, 50, 84, 1), 0, []),
  (363, false, .aload_n 0, 1, 0, (0, 0, 0, 0), 0, []),
  (364, false, .sipush 2000, 3, 0, (0, 0, 0, 0), 0, []),
  (367, false, .newarray .int, 2, 0, (83, 0, 0, 0), 0, []),
  (369, false, .putfield 144, 3, 845, (40, 51, 85, 1), 0, []),
  (372, false, .aload_n 0, 1, 0, (0, 0, 0, 0), 0, []),
  (373, false, .sipush 2000, 3, 0, (0, 0, 0, 0), 0, []),
  (376, false, .newarray .int, 2, 0, (84, 0, 0, 0), 0, []),
  (378, false, .putfield 147, 3, 846, (40, 52, 86, 1), 0, []),
  (381, false, .aload_n 0, 1, 0, (0, 0, 0, 0), 0, []),
  (382, false, .bipush 100, 2, 0, (0, 0, 0, 0), 0, []),
  (384, false, .newarray .int, 2, 0, (85, 0, 0, 0), 0, []),
  (386, false, .putfield 150, 3, 848, (40, 54, 87, 1), 0, []),
  (389, false, .aload_n 0, 1, 0, (0, 0, 0, 0), 0, []),
  (390, false, .bipush 100, 2, 0, (0, 0, 0, 0), 0, []),
  (392, false, .newarray .int, 2, 0, (86, 0, 0, 0), 0, []),
  (394, false, .putfield 153, 3, 849, (40, 55, 88, 1), 0, []),
  (397, true, .aload_n 0, 1, 0, (0, 0, 0, 0), 0, []),
  (398, false, .bipush 100, 2, 0, (0, 0, 0, 0), 0, []),
  (400, false, .newarray .boolean, 2, 0, (87, 0, 0, 0), 0, []),
  (402, false, .putfield 156, 3, 850, (40, 56, 89, 1), 0, []),
  (405, false, .aload_n 0, 1, 0, (0, 0, 0, 0), 0, []),
  (406, false, .sipush 300, 3, 0, (0, 0, 0, 0), 0, []),
  (409, false, .newarray .int, 2, 0, (88, 0, 0, 0), 0, []),
  (411, false, .putfield 159, 3, 852, (40, 58, 90, 1), 0, []),
  (414, false, .aload_n 0, 1, 0, (0, 0, 0, 0), 0, []),
  (415, false, .sipush 300, 3, 0, (0, 0, 0, 0), 0, []),
  (418, false, .newarray .int, 2, 0, (89, 0, 0, 0), 0, []),
  (420, false, .putfield 162, 3, 853, (40, 59, 91, 1), 0, []),
  (423, false, .aload_n 0, 1, 0, (0, 0, 0, 0), 0, []),
  (424, false, .sipush 300, 3, 0, (0, 0, 0, 0), 0, []),
  (427, false, .newarray .int, 2, 0, (90, 0, 0, 0), 0, []),
  (429, false, .putfield 165, 3, 854, (40, 60, 92, 1), 0, []),
  (432, false, .aload_n 0, 1, 0, (0, 0, 0, 0), 0, []),
  (433, false, .bipush 60, 2, 0, (0, 0, 0, 0), 0, []),
  (435, false, .newarray .boolean, 2, 0, (91, 0, 0, 0), 0, []),
  (437, false, .putfield 168, 3, 855, (40, 61, 93, 1), 0, []),
  (440, false, .iconst 0, 1, 0, (0, 0, 0, 0), 0, []),
  (441, false, .istore_n 1, 1, 0, (0, 0, 0, 0), 0, []),
  (442, true, .iload_n 1, 1, 0, (0, 0, 0, 0), 0, []),
  (443, false, .bipush 8, 2, 0, (0, 0, 0, 0), 0, []),
  (445, false, .if_icmp .ge 16, 3, 0, (461, 0, 0, 0), 0, []),
  (448, true, .aload_n 0, 1, 0, (0, 0, 0, 0), 0, []),
  (449, false, .getfield 16, 3, 799, (40, 5, 43, 1), 0, []),
  (452, false, .iload_n 1, 1, 0, (0, 0, 0, 0), 0, []),
  (453, false, .iconst (-1), 1, 0, (0, 0, 0, 0), 0, []),
  (454, false, .iastore, 1, 0, (41, 0, 0, 0), 0, []),
  (455, false, .iinc 1 1, 3, 0, (0, 0, 0, 0), 0, []),
  (458, false, .goto (-16), 3, 0, (442, 0, 0, 0), 0, []),
  (461, false, .return_, 1, 0, (0, 0, 0, 0), 0, [])]
theorem zc_m_new : zk_m_new.all (zz_ck zz_inf zM_m_new) = true ∧ zz_ch zk_m_new = true := ⟨by decide +kernel, by decide +kernel⟩
noncomputable def m_new_448 (k442 : Int → Int → zz_S → zz_R) (v0 v1 : Int) (σ : zz_S) : zz_R := (if zz_h σ 40 v0 5 = v0 then (if v0 = 0 then none else (if zz_b σ 41 v0 v1 then (let s1 := zz_w σ 41 v0 v1 (-1); (k442 v0 (zz_r (v1 + 1)) s1)) else none)) else none)
set_option maxRecDepth 100000 in
set_option maxHeartbeats 4000000 in
theorem ze_m_new_448 (k442 : Int → Int → zz_S → zz_R) (v0 v1 : Int) (σ : zz_S) : m_new_448 k442 v0 v1 σ = zz_ev (zz_CE []) (zz_KE [(442, [(0, 1040, false), (1, 0, false)], zz_f2 k442)]) zk_m_new 999 false 40 1 400 true (zz_sk zk_m_new 448) [(0, 1040, v0), (1, 0, v1)] [] σ := rfl
theorem zo_m_new_448 (k442 : Int → Int → zz_S → zz_R) (hk442 : zz_okb zM_m_new 442 [(0, 1040, false), (1, 0, false)] (zz_f2 k442)) : zz_okb zM_m_new 448 [(0, 1040, false), (1, 0, false)] (zz_f2 (m_new_448 k442)) :=
  fun vs σ r τ h => by
    obtain ⟨v0, v1, rfl, h⟩ := zz_f2_ok h
    exact zz_from zc_m_new zz_oc0 (zz_olc hk442 zz_ol0) ((ze_m_new_448 k442 v0 v1 σ).symm.trans h)
noncomputable def m_new_442 : Nat → Int → Int → zz_S → zz_R
  | 0, _, _, _ => none
  | n + 1, v0, v1, σ => (if v1 < 8 then (m_new_448 (m_new_442 n) v0 v1 σ) else (if zz_ow σ 40 v0 (zz_own 40) = true ∧ zz_m σ 40 + 1 = v0 then (some (0, zz_f σ 40)) else none))
set_option maxRecDepth 100000 in
set_option maxHeartbeats 4000000 in
theorem ze_m_new_442 (n : Nat) (v0 v1 : Int) (σ : zz_S) : m_new_442 (n + 1) v0 v1 σ = zz_ev (zz_CE []) (zz_KE [(448, [(0, 1040, false), (1, 0, false)], zz_f2 (m_new_448 (m_new_442 n)))]) zk_m_new 999 false 40 1 400 true (zz_sk zk_m_new 442) [(0, 1040, v0), (1, 0, v1)] [] σ := rfl
theorem zo_m_new_442 : ∀ n : Nat, zz_okb zM_m_new 442 [(0, 1040, false), (1, 0, false)] (zz_f2 (m_new_442 n))
  | 0 => fun vs σ r τ h => by
    obtain ⟨v0, v1, rfl, h⟩ := zz_f2_ok h
    exact nomatch (show (none : zz_R) = some (r, τ) from h)
  | n + 1 => by
    have ih := zo_m_new_442 n
    exact fun vs σ r τ h => by
        obtain ⟨v0, v1, rfl, h⟩ := zz_f2_ok h
        exact zz_from zc_m_new zz_oc0 (zz_olc (zo_m_new_448 (m_new_442 n) ih) zz_ol0) ((ze_m_new_442 n v0 v1 σ).symm.trans h)
noncomputable def m_new_397 (v0 : Int) (σ : zz_S) : zz_R := (let s1 := zz_n σ 87 1 100; (if true = true ∧ (zz_c σ 87 + 1) ≠ v0 then none else (let s2 := zz_w s1 40 v0 56 (zz_c σ 87 + 1); (let s3 := zz_n s2 88 1 300; (if true = true ∧ (zz_c s2 88 + 1) ≠ v0 then none else (let s4 := zz_w s3 40 v0 58 (zz_c s2 88 + 1); (let s5 := zz_n s4 89 1 300; (if true = true ∧ (zz_c s4 89 + 1) ≠ v0 then none else (let s6 := zz_w s5 40 v0 59 (zz_c s4 89 + 1); (let s7 := zz_n s6 90 1 300; (if true = true ∧ (zz_c s6 90 + 1) ≠ v0 then none else (let s8 := zz_w s7 40 v0 60 (zz_c s6 90 + 1); (let s9 := zz_n s8 91 1 60; (if true = true ∧ (zz_c s8 91 + 1) ≠ v0 then none else (let s10 := zz_w s9 40 v0 61 (zz_c s8 91 + 1); (m_new_442 zz_fu v0 0 s10))))))))))))))))
set_option maxRecDepth 100000 in
set_option maxHeartbeats 4000000 in
theorem ze_m_new_397 (v0 : Int) (σ : zz_S) : m_new_397 v0 σ = zz_ev (zz_CE []) (zz_KE [(442, [(0, 1040, false), (1, 0, false)], zz_f2 (m_new_442 zz_fu))]) zk_m_new 999 false 40 1 400 true (zz_sk zk_m_new 397) [(0, 1040, v0)] [] σ := rfl
theorem zo_m_new_397 : zz_okb zM_m_new 397 [(0, 1040, false)] (zz_f1 m_new_397) :=
  fun vs σ r τ h => by
    obtain ⟨v0, rfl, h⟩ := zz_f1_ok h
    exact zz_from zc_m_new zz_oc0 (zz_olc (zo_m_new_442 zz_fu) zz_ol0) ((ze_m_new_397 v0 σ).symm.trans h)
noncomputable def m_new_345 (v0 : Int) (σ : zz_S) : zz_R := (let s1 := zz_n σ 81 1 2000; (if true = true ∧ (zz_c σ 81 + 1) ≠ v0 then none else (let s2 := zz_w s1 40 v0 49 (zz_c σ 81 + 1); (let s3 := zz_n s2 82 1 2000; (if true = true ∧ (zz_c s2 82 + 1) ≠ v0 then none else (let s4 := zz_w s3 40 v0 50 (zz_c s2 82 + 1); (let s5 := zz_n s4 83 1 2000; (if true = true ∧ (zz_c s4 83 + 1) ≠ v0 then none else (let s6 := zz_w s5 40 v0 51 (zz_c s4 83 + 1); (let s7 := zz_n s6 84 1 2000; (if true = true ∧ (zz_c s6 84 + 1) ≠ v0 then none else (let s8 := zz_w s7 40 v0 52 (zz_c s6 84 + 1); (let s9 := zz_n s8 85 1 100; (if true = true ∧ (zz_c s8 85 + 1) ≠ v0 then none else (let s10 := zz_w s9 40 v0 54 (zz_c s8 85 + 1); (let s11 := zz_n s10 86 1 100; (if true = true ∧ (zz_c s10 86 + 1) ≠ v0 then none else (let s12 := zz_w s11 40 v0 55 (zz_c s10 86 + 1); (m_new_397 v0 s12)))))))))))))))))))
set_option maxRecDepth 100000 in
set_option maxHeartbeats 4000000 in
theorem ze_m_new_345 (v0 : Int) (σ : zz_S) : m_new_345 v0 σ = zz_ev (zz_CE []) (zz_KE [(397, [(0, 1040, false)], zz_f1 (m_new_397))]) zk_m_new 999 false 40 1 400 true (zz_sk zk_m_new 345) [(0, 1040, v0)] [] σ := rfl
theorem zo_m_new_345 : zz_okb zM_m_new 345 [(0, 1040, false)] (zz_f1 m_new_345) :=
  fun vs σ r τ h => by
    obtain ⟨v0, rfl, h⟩ := zz_f1_ok h
    exact zz_from zc_m_new zz_oc0 (zz_olc (zo_m_new_397) zz_ol0) ((ze_m_new_345 v0 σ).symm.trans h)
noncomputable def m_new_291 (v0 : Int) (σ : zz_S) : zz_R := (let s1 := zz_n σ 75 1 2000; (if true = true ∧ (zz_c σ 75 + 1) ≠ v0 then none else (let s2 := zz_w s1 40 v0 43 (zz_c σ 75 + 1); (let s3 := zz_n s2 76 1 2000; (if true = true ∧ (zz_c s2 76 + 1) ≠ v0 then none else (let s4 := zz_w s3 40 v0 44 (zz_c s2 76 + 1); (let s5 := zz_n s4 77 1 2000; (if true = true ∧ (zz_c s4 77 + 1) ≠ v0 then none else (let s6 := zz_w s5 40 v0 45 (zz_c s4 77 + 1); (let s7 := zz_n s6 78 1 2000; (if true = true ∧ (zz_c s6 78 + 1) ≠ v0 then none else (let s8 := zz_w s7 40 v0 46 (zz_c s6 78 + 1); (let s9 := zz_n s8 79 1 2000; (if true = true ∧ (zz_c s8 79 + 1) ≠ v0 then none else (let s10 := zz_w s9 40 v0 47 (zz_c s8 79 + 1); (let s11 := zz_n s10 80 1 2000; (if true = true ∧ (zz_c s10 80 + 1) ≠ v0 then none else (let s12 := zz_w s11 40 v0 48 (zz_c s10 80 + 1); (m_new_345 v0 s12)))))))))))))))))))
set_option maxRecDepth 100000 in
set_option maxHeartbeats 4000000 in
theorem ze_m_new_291 (v0 : Int) (σ : zz_S) : m_new_291 v0 σ = zz_ev (zz_CE []) (zz_KE [(345, [(0, 1040, false)], zz_f1 (m_new_345))]) zk_m_new 999 false 40 1 400 true (zz_sk zk_m_new 291) [(0, 1040, v0)] [] σ := rfl
theorem zo_m_new_291 : zz_okb zM_m_new 291 [(0, 1040, false)] (zz_f1 m_new_291) :=
  fun vs σ r τ h => by
    obtain ⟨v0, rfl, h⟩ := zz_f1_ok h
    exact zz_from zc_m_new zz_oc0 (zz_olc (zo_m_new_345) zz_ol0) ((ze_m_new_291 v0 σ).symm.trans h)
noncomputable def m_new_241 (v0 : Int) (σ : zz_S) : zz_R := (let s1 := zz_n σ 69 1 240; (if true = true ∧ (zz_c σ 69 + 1) ≠ v0 then none else (let s2 := zz_w s1 40 v0 35 (zz_c σ 69 + 1); (let s3 := zz_n s2 70 1 240; (if true = true ∧ (zz_c s2 70 + 1) ≠ v0 then none else (let s4 := zz_w s3 40 v0 36 (zz_c s2 70 + 1); (let s5 := zz_n s4 71 1 40; (if true = true ∧ (zz_c s4 71 + 1) ≠ v0 then none else (let s6 := zz_w s5 40 v0 38 (zz_c s4 71 + 1); (let s7 := zz_n s6 72 1 40; (if true = true ∧ (zz_c s6 72 + 1) ≠ v0 then none else (let s8 := zz_w s7 40 v0 39 (zz_c s6 72 + 1); (let s9 := zz_n s8 73 1 40; (if true = true ∧ (zz_c s8 73 + 1) ≠ v0 then none else (let s10 := zz_w s9 40 v0 40 (zz_c s8 73 + 1); (let s11 := zz_n s10 74 1 8; (if true = true ∧ (zz_c s10 74 + 1) ≠ v0 then none else (let s12 := zz_w s11 40 v0 41 (zz_c s10 74 + 1); (m_new_291 v0 s12)))))))))))))))))))
set_option maxRecDepth 100000 in
set_option maxHeartbeats 4000000 in
theorem ze_m_new_241 (v0 : Int) (σ : zz_S) : m_new_241 v0 σ = zz_ev (zz_CE []) (zz_KE [(291, [(0, 1040, false)], zz_f1 (m_new_291))]) zk_m_new 999 false 40 1 400 true (zz_sk zk_m_new 241) [(0, 1040, v0)] [] σ := rfl
theorem zo_m_new_241 : zz_okb zM_m_new 241 [(0, 1040, false)] (zz_f1 m_new_241) :=
  fun vs σ r τ h => by
    obtain ⟨v0, rfl, h⟩ := zz_f1_ok h
    exact zz_from zc_m_new zz_oc0 (zz_olc (zo_m_new_291) zz_ol0) ((ze_m_new_241 v0 σ).symm.trans h)
noncomputable def m_new_190 (v0 : Int) (σ : zz_S) : zz_R := (let s1 := zz_n σ 63 1 60; (if true = true ∧ (zz_c σ 63 + 1) ≠ v0 then none else (let s2 := zz_w s1 40 v0 29 (zz_c σ 63 + 1); (let s3 := zz_n s2 64 1 60; (if true = true ∧ (zz_c s2 64 + 1) ≠ v0 then none else (let s4 := zz_w s3 40 v0 30 (zz_c s2 64 + 1); (let s5 := zz_n s4 65 1 240; (if true = true ∧ (zz_c s4 65 + 1) ≠ v0 then none else (let s6 := zz_w s5 40 v0 31 (zz_c s4 65 + 1); (let s7 := zz_n s6 66 1 240; (if true = true ∧ (zz_c s6 66 + 1) ≠ v0 then none else (let s8 := zz_w s7 40 v0 32 (zz_c s6 66 + 1); (let s9 := zz_n s8 67 1 240; (if true = true ∧ (zz_c s8 67 + 1) ≠ v0 then none else (let s10 := zz_w s9 40 v0 33 (zz_c s8 67 + 1); (let s11 := zz_n s10 68 1 60; (if true = true ∧ (zz_c s10 68 + 1) ≠ v0 then none else (let s12 := zz_w s11 40 v0 34 (zz_c s10 68 + 1); (m_new_241 v0 s12)))))))))))))))))))
set_option maxRecDepth 100000 in
set_option maxHeartbeats 4000000 in
theorem ze_m_new_190 (v0 : Int) (σ : zz_S) : m_new_190 v0 σ = zz_ev (zz_CE []) (zz_KE [(241, [(0, 1040, false)], zz_f1 (m_new_241))]) zk_m_new 999 false 40 1 400 true (zz_sk zk_m_new 190) [(0, 1040, v0)] [] σ := rfl
theorem zo_m_new_190 : zz_okb zM_m_new 190 [(0, 1040, false)] (zz_f1 m_new_190) :=
  fun vs σ r τ h => by
    obtain ⟨v0, rfl, h⟩ := zz_f1_ok h
    exact zz_from zc_m_new zz_oc0 (zz_olc (zo_m_new_241) zz_ol0) ((ze_m_new_190 v0 σ).symm.trans h)
noncomputable def m_new_142 (v0 : Int) (σ : zz_S) : zz_R := (let s1 := zz_n σ 57 1 60; (if true = true ∧ (zz_c σ 57 + 1) ≠ v0 then none else (let s2 := zz_w s1 40 v0 23 (zz_c σ 57 + 1); (let s3 := zz_n s2 58 1 60; (if true = true ∧ (zz_c s2 58 + 1) ≠ v0 then none else (let s4 := zz_w s3 40 v0 24 (zz_c s2 58 + 1); (let s5 := zz_n s4 59 1 60; (if true = true ∧ (zz_c s4 59 + 1) ≠ v0 then none else (let s6 := zz_w s5 40 v0 25 (zz_c s4 59 + 1); (let s7 := zz_n s6 60 1 60; (if true = true ∧ (zz_c s6 60 + 1) ≠ v0 then none else (let s8 := zz_w s7 40 v0 26 (zz_c s6 60 + 1); (let s9 := zz_n s8 61 1 60; (if true = true ∧ (zz_c s8 61 + 1) ≠ v0 then none else (let s10 := zz_w s9 40 v0 27 (zz_c s8 61 + 1); (let s11 := zz_n s10 62 1 60; (if true = true ∧ (zz_c s10 62 + 1) ≠ v0 then none else (let s12 := zz_w s11 40 v0 28 (zz_c s10 62 + 1); (m_new_190 v0 s12)))))))))))))))))))
set_option maxRecDepth 100000 in
set_option maxHeartbeats 4000000 in
theorem ze_m_new_142 (v0 : Int) (σ : zz_S) : m_new_142 v0 σ = zz_ev (zz_CE []) (zz_KE [(190, [(0, 1040, false)], zz_f1 (m_new_190))]) zk_m_new 999 false 40 1 400 true (zz_sk zk_m_new 142) [(0, 1040, v0)] [] σ := rfl
theorem zo_m_new_142 : zz_okb zM_m_new 142 [(0, 1040, false)] (zz_f1 m_new_142) :=
  fun vs σ r τ h => by
    obtain ⟨v0, rfl, h⟩ := zz_f1_ok h
    exact zz_from zc_m_new zz_oc0 (zz_olc (zo_m_new_190) zz_ol0) ((ze_m_new_142 v0 σ).symm.trans h)
noncomputable def m_new_94 (v0 : Int) (σ : zz_S) : zz_R := (let s1 := zz_n σ 51 1 60; (if true = true ∧ (zz_c σ 51 + 1) ≠ v0 then none else (let s2 := zz_w s1 40 v0 17 (zz_c σ 51 + 1); (let s3 := zz_n s2 52 1 60; (if true = true ∧ (zz_c s2 52 + 1) ≠ v0 then none else (let s4 := zz_w s3 40 v0 18 (zz_c s2 52 + 1); (let s5 := zz_n s4 53 1 60; (if true = true ∧ (zz_c s4 53 + 1) ≠ v0 then none else (let s6 := zz_w s5 40 v0 19 (zz_c s4 53 + 1); (let s7 := zz_n s6 54 1 60; (if true = true ∧ (zz_c s6 54 + 1) ≠ v0 then none else (let s8 := zz_w s7 40 v0 20 (zz_c s6 54 + 1); (let s9 := zz_n s8 55 1 60; (if true = true ∧ (zz_c s8 55 + 1) ≠ v0 then none else (let s10 := zz_w s9 40 v0 21 (zz_c s8 55 + 1); (let s11 := zz_n s10 56 1 60; (if true = true ∧ (zz_c s10 56 + 1) ≠ v0 then none else (let s12 := zz_w s11 40 v0 22 (zz_c s10 56 + 1); (m_new_142 v0 s12)))))))))))))))))))
set_option maxRecDepth 100000 in
set_option maxHeartbeats 4000000 in
theorem ze_m_new_94 (v0 : Int) (σ : zz_S) : m_new_94 v0 σ = zz_ev (zz_CE []) (zz_KE [(142, [(0, 1040, false)], zz_f1 (m_new_142))]) zk_m_new 999 false 40 1 400 true (zz_sk zk_m_new 94) [(0, 1040, v0)] [] σ := rfl
theorem zo_m_new_94 : zz_okb zM_m_new 94 [(0, 1040, false)] (zz_f1 m_new_94) :=
  fun vs σ r τ h => by
    obtain ⟨v0, rfl, h⟩ := zz_f1_ok h
    exact zz_from zc_m_new zz_oc0 (zz_olc (zo_m_new_142) zz_ol0) ((ze_m_new_94 v0 σ).symm.trans h)
noncomputable def m_new_46 (v0 : Int) (σ : zz_S) : zz_R := (let s1 := zz_n σ 45 1 60; (if true = true ∧ (zz_c σ 45 + 1) ≠ v0 then none else (let s2 := zz_w s1 40 v0 11 (zz_c σ 45 + 1); (let s3 := zz_n s2 46 1 60; (if true = true ∧ (zz_c s2 46 + 1) ≠ v0 then none else (let s4 := zz_w s3 40 v0 12 (zz_c s2 46 + 1); (let s5 := zz_n s4 47 1 60; (if true = true ∧ (zz_c s4 47 + 1) ≠ v0 then none else (let s6 := zz_w s5 40 v0 13 (zz_c s4 47 + 1); (let s7 := zz_n s6 48 1 60; (if true = true ∧ (zz_c s6 48 + 1) ≠ v0 then none else (let s8 := zz_w s7 40 v0 14 (zz_c s6 48 + 1); (let s9 := zz_n s8 49 1 60; (if true = true ∧ (zz_c s8 49 + 1) ≠ v0 then none else (let s10 := zz_w s9 40 v0 15 (zz_c s8 49 + 1); (let s11 := zz_n s10 50 1 60; (if true = true ∧ (zz_c s10 50 + 1) ≠ v0 then none else (let s12 := zz_w s11 40 v0 16 (zz_c s10 50 + 1); (m_new_94 v0 s12)))))))))))))))))))
set_option maxRecDepth 100000 in
set_option maxHeartbeats 4000000 in
theorem ze_m_new_46 (v0 : Int) (σ : zz_S) : m_new_46 v0 σ = zz_ev (zz_CE []) (zz_KE [(94, [(0, 1040, false)], zz_f1 (m_new_94))]) zk_m_new 999 false 40 1 400 true (zz_sk zk_m_new 46) [(0, 1040, v0)] [] σ := rfl
theorem zo_m_new_46 : zz_okb zM_m_new 46 [(0, 1040, false)] (zz_f1 m_new_46) :=
  fun vs σ r τ h => by
    obtain ⟨v0, rfl, h⟩ := zz_f1_ok h
    exact zz_from zc_m_new zz_oc0 (zz_olc (zo_m_new_94) zz_ol0) ((ze_m_new_46 v0 σ).symm.trans h)
noncomputable def m_new (v0 : Int) (σ : zz_S) : zz_R := (let s1 := zz_w σ 40 v0 2 (-1); (let s2 := zz_w s1 40 v0 4 1; (let s3 := zz_n s2 41 1 8; (if true = true ∧ (zz_c s2 41 + 1) ≠ v0 then none else (let s4 := zz_w s3 40 v0 5 (zz_c s2 41 + 1); (let s5 := zz_n s4 42 1 8; (if true = true ∧ (zz_c s4 42 + 1) ≠ v0 then none else (let s6 := zz_w s5 40 v0 6 (zz_c s4 42 + 1); (let s7 := zz_n s6 43 1 8; (if true = true ∧ (zz_c s6 43 + 1) ≠ v0 then none else (let s8 := zz_w s7 40 v0 8 (zz_c s6 43 + 1); (let s9 := zz_n s8 44 1 60; (if true = true ∧ (zz_c s8 44 + 1) ≠ v0 then none else (let s10 := zz_w s9 40 v0 10 (zz_c s8 44 + 1); (m_new_46 v0 s10)))))))))))))))
set_option maxRecDepth 100000 in
set_option maxHeartbeats 4000000 in
theorem ze_m_new (v0 : Int) (σ : zz_S) : m_new v0 σ = zz_ev (zz_CE []) (zz_KE [(46, [(0, 1040, false)], zz_f1 (m_new_46))]) zk_m_new 999 false 40 1 400 true (zz_sk zk_m_new 0) [(0, 1040, v0)] [] σ := rfl
theorem zo_m_new : zz_okb zM_m_new 0 [(0, 1040, false)] (zz_f1 m_new) :=
  fun vs σ r τ h => by
    obtain ⟨v0, rfl, h⟩ := zz_f1_ok h
    exact zz_from zc_m_new zz_oc0 (zz_olc (zo_m_new_46) zz_ol0) ((ze_m_new v0 σ).symm.trans h)
noncomputable def zw_m_new : List Int → zz_S → zz_R := zz_f1 fun a0 σ => m_new a0 σ
theorem zo_m_m_new : zz_okm zz_inf 107 zw_m_new := fun vs σ r τ h => by
  obtain ⟨a0, rfl, h⟩ := zz_f1_ok h
  exact zz_meth zi_m_new zy_m_new (zo_m_new [a0] σ r τ h)
def zk_m_in : List zz_E := [(0, false, .iload_n 0, 1, 0, (0, 0, 0, 0), 0, []),
  (1, false, .iload_n 1, 1, 0, (0, 0, 0, 0), 0, []),
  (2, false, .if_icmp .lt 12, 3, 0, (14, 0, 0, 0), 0, []),
  (5, false, .iload_n 0, 1, 0, (0, 0, 0, 0), 0, []),
  (6, false, .iload_n 2, 1, 0, (0, 0, 0, 0), 0, []),
  (7, false, .if_icmp .gt 7, 3, 0, (14, 0, 0, 0), 0, []),
  (10, false, .iconst 1, 1, 0, (0, 0, 0, 0), 0, []),
  (11, false, .goto 4, 3, 0, (15, 0, 0, 0), 0, []),
  (14, false, .iconst 0, 1, 0, (0, 0, 0, 0), 0, []),
  (15, false, .ireturn, 1, 0, (0, 0, 0, 0), 0, [])]
theorem zc_m_in : zk_m_in.all (zz_ck zz_inf zM_m_in) = true ∧ zz_ch zk_m_in = true := ⟨by decide +kernel, by decide +kernel⟩
noncomputable def m_in (v0 v1 v2 : Int) (σ : zz_S) : zz_R := (if v0 < v1 then (some (0, σ)) else (if v0 ≤ v2 then (some (1, σ)) else (some (0, σ))))
set_option maxRecDepth 100000 in
set_option maxHeartbeats 4000000 in
theorem ze_m_in (v0 v1 v2 : Int) (σ : zz_S) : m_in v0 v1 v2 σ = zz_ev (zz_CE []) (zz_KE []) zk_m_in 0 true 0 1 400 true (zz_sk zk_m_in 0) [(0, 0, v0), (1, 0, v1), (2, 0, v2)] [] σ := rfl
theorem zo_m_in : zz_okb zM_m_in 0 [(0, 0, false), (1, 0, false), (2, 0, false)] (zz_f3 m_in) :=
  fun vs σ r τ h => by
    obtain ⟨v0, v1, v2, rfl, h⟩ := zz_f3_ok h
    exact zz_from zc_m_in zz_oc0 zz_ol0 ((ze_m_in v0 v1 v2 σ).symm.trans h)
noncomputable def zw_m_in : List Int → zz_S → zz_R := zz_f3 fun a0 a1 a2 σ => m_in a0 a1 a2 σ
theorem zo_m_m_in : zz_okm zz_inf 108 zw_m_in := fun vs σ r τ h => by
  obtain ⟨a0, a1, a2, rfl, h⟩ := zz_f3_ok h
  exact zz_meth zi_m_in zy_m_in (zo_m_in [a0, a1, a2] σ r τ h)
def zk_m_isTask : List zz_E := [(0, false, .iload_n 1, 1, 0, (0, 0, 0, 0), 0, []),
  (1, false, .iconst 0, 1, 0, (0, 0, 0, 0), 0, []),
  (2, false, .aload_n 0, 1, 0, (0, 0, 0, 0), 0, []),
  (3, false, .getfield 171, 3, 803, (40, 9, 0, 0), 0, []),
  (6, false, .iconst 1, 1, 0, (0, 0, 0, 0), 0, []),
  (7, false, .isub, 1, 0, (0, 0, 0, 0), 0, []),
  (8, false, .invokestatic 174, 3, 1021, (108, 3, 0, 0), 0, [0, 0, 0]),
  (11, false, .ireturn, 1, 0, (0, 0, 0, 0), 0, [])]
theorem zc_m_isTask : zk_m_isTask.all (zz_ck zz_inf zM_m_isTask) = true ∧ zz_ch zk_m_isTask = true := ⟨by decide +kernel, by decide +kernel⟩
noncomputable def m_isTask (v1 : Int) (σ : zz_S) : zz_R := ((m_in v1 0 (zz_r ((zz_h σ 40 1 9) - 1)) σ).bind fun q1 => (if zz_o q1.1 then (some (q1.1, q1.2)) else none))
set_option maxRecDepth 100000 in
set_option maxHeartbeats 4000000 in
theorem ze_m_isTask (v1 : Int) (σ : zz_S) : m_isTask v1 σ = zz_ev (zz_CE [(108, zw_m_in)]) (zz_KE []) zk_m_isTask 0 true 0 1 400 true (zz_sk zk_m_isTask 0) [(0, 42, 1), (1, 0, v1)] [] σ := rfl
theorem zo_m_isTask : zz_okb zM_m_isTask 0 [(0, 42, true), (1, 0, false)] (zz_f1 m_isTask) :=
  fun vs σ r τ h => by
    obtain ⟨v1, rfl, h⟩ := zz_f1_ok h
    exact zz_from zc_m_isTask (zz_occ zo_m_m_in zz_oc0) zz_ol0 ((ze_m_isTask v1 σ).symm.trans h)
noncomputable def zw_m_isTask : List Int → zz_S → zz_R := zz_f2 fun a0 a1 σ => if a0 = 1 then m_isTask a1 σ else none
theorem zo_m_m_isTask : zz_okm zz_inf 109 zw_m_isTask := fun vs σ r τ h => by
  obtain ⟨a0, a1, rfl, h⟩ := zz_f2_ok h
  obtain ⟨e, h⟩ := zz_it h
  subst e
  exact zz_meth zi_m_isTask zy_m_isTask (zo_m_isTask [a1] σ r τ h)
def zk_m_isActive : List zz_E := [(0, false, .aload_n 0, 1, 0, (0, 0, 0, 0), 0, []),
  (1, false, .getfield 62, 3, 816, (40, 22, 58, 1), 0, []),
  (4, false, .iload_n 1, 1, 0, (0, 0, 0, 0), 0, []),
  (5, false, .iaload, 1, 0, (56, 0, 0, 0), 0, []),
  (6, false, .ifCond .ne 7, 3, 0, (13, 0, 0, 0), 0, []),
  (9, false, .iconst 1, 1, 0, (0, 0, 0, 0), 0, []),
  (10, false, .goto 4, 3, 0, (14, 0, 0, 0), 0, []),
  (13, false, .iconst 0, 1, 0, (0, 0, 0, 0), 0, []),
  (14, false, .ireturn, 1, 0, (0, 0, 0, 0), 0, [])]
theorem zc_m_isActive : zk_m_isActive.all (zz_ck zz_inf zM_m_isActive) = true ∧ zz_ch zk_m_isActive = true := ⟨by decide +kernel, by decide +kernel⟩
noncomputable def m_isActive (v1 : Int) (σ : zz_S) : zz_R := (if zz_b σ 56 1 v1 then (if (zz_h σ 56 1 v1) = 0 then (some (1, σ)) else (some (0, σ))) else none)
set_option maxRecDepth 100000 in
set_option maxHeartbeats 4000000 in
theorem ze_m_isActive (v1 : Int) (σ : zz_S) : m_isActive v1 σ = zz_ev (zz_CE []) (zz_KE []) zk_m_isActive 0 true 0 1 400 true (zz_sk zk_m_isActive 0) [(0, 42, 1), (1, 0, v1)] [] σ := rfl
theorem zo_m_isActive : zz_okb zM_m_isActive 0 [(0, 42, true), (1, 0, false)] (zz_f1 m_isActive) :=
  fun vs σ r τ h => by
    obtain ⟨v1, rfl, h⟩ := zz_f1_ok h
    exact zz_from zc_m_isActive zz_oc0 zz_ol0 ((ze_m_isActive v1 σ).symm.trans h)
noncomputable def zw_m_isActive : List Int → zz_S → zz_R := zz_f2 fun a0 a1 σ => if a0 = 1 then m_isActive a1 σ else none
theorem zo_m_m_isActive : zz_okm zz_inf 110 zw_m_isActive := fun vs σ r τ h => by
  obtain ⟨a0, a1, rfl, h⟩ := zz_f2_ok h
  obtain ⟨e, h⟩ := zz_it h
  subst e
  exact zz_meth zi_m_isActive zy_m_isActive (zo_m_isActive [a1] σ r τ h)
def zk_m_atWork : List zz_E := [(0, false, .iconst 0, 1, 0, (0, 0, 0, 0), 0, []),
  (1, false, .istore_n 1, 1, 0, (0, 0, 0, 0), 0, []),
  (2, false, .iconst 0, 1, 0, (0, 0, 0, 0), 0, []),
  (3, false, .istore_n 2, 1, 0, (0, 0, 0, 0), 0, []),
  (4, true, .iload_n 2, 1, 0, (0, 0, 0, 0), 0, []),
  (5, false, .aload_n 0, 1, 0, (0, 0, 0, 0), 0, []),
  (6, false, .getfield 13, 3, 798, (40, 4, 0, 0), 0, []),
  (9, false, .if_icmp .ge 22, 3, 0, (31, 0, 0, 0), 0, []),
  (12, false, .aload_n 0, 1, 0, (0, 0, 0, 0), 0, []),
  (13, false, .getfield 16, 3, 799, (40, 5, 43, 1), 0, []),
  (16, false, .iload_n 2, 1, 0, (0, 0, 0, 0), 0, []),
  (17, false, .iaload, 1, 0, (41, 0, 0, 0), 0, []),
  (18, false, .iconst (-1), 1, 0, (0, 0, 0, 0), 0, []),
  (19, false, .if_icmp .eq 6, 3, 0, (25, 0, 0, 0), 0, []),
  (22, false, .iinc 1 1, 3, 0, (0, 0, 0, 0), 0, []),
  (25, false, .iinc 2 1, 3, 0, (0, 0, 0, 0), 0, []),
  (28, false, .goto (-24), 3, 0, (4, 0, 0, 0), 0, []),
  (31, false, .iload_n 1, 1, 0, (0, 0, 0, 0), 0, []),
  (32, false, .ireturn, 1, 0, (0, 0, 0, 0), 0, [])]
theorem zc_m_atWork : zk_m_atWork.all (zz_ck zz_inf zM_m_atWork) = true ∧ zz_ch zk_m_atWork = true := ⟨by decide +kernel, by decide +kernel⟩
noncomputable def m_atWork_4 : Nat → Int → Int → zz_S → zz_R
  | 0, _, _, _ => none
  | n + 1, v1, v2, σ => (if v2 < (zz_h σ 40 1 4) then (if zz_b σ 41 1 v2 then (if (zz_h σ 41 1 v2) = (-1) then (m_atWork_4 n v1 (zz_r (v2 + 1)) σ) else (m_atWork_4 n (zz_r (v1 + 1)) (zz_r (v2 + 1)) σ)) else none) else (some (v1, σ)))
set_option maxRecDepth 100000 in
set_option maxHeartbeats 4000000 in
theorem ze_m_atWork_4 (n : Nat) (v1 v2 : Int) (σ : zz_S) : m_atWork_4 (n + 1) v1 v2 σ = zz_ev (zz_CE []) (zz_KE [(4, [(0, 42, true), (1, 0, false), (2, 0, false)], zz_f2 (m_atWork_4 n))]) zk_m_atWork 0 false 0 1 400 true (zz_sk zk_m_atWork 4) [(0, 42, 1), (1, 0, v1), (2, 0, v2)] [] σ := rfl
theorem zo_m_atWork_4 : ∀ n : Nat, zz_okb zM_m_atWork 4 [(0, 42, true), (1, 0, false), (2, 0, false)] (zz_f2 (m_atWork_4 n))
  | 0 => fun vs σ r τ h => by
    obtain ⟨v1, v2, rfl, h⟩ := zz_f2_ok h
    exact nomatch (show (none : zz_R) = some (r, τ) from h)
  | n + 1 => by
    have ih := zo_m_atWork_4 n
    exact fun vs σ r τ h => by
        obtain ⟨v1, v2, rfl, h⟩ := zz_f2_ok h
        exact zz_from zc_m_atWork zz_oc0 (zz_olc ih zz_ol0) ((ze_m_atWork_4 n v1 v2 σ).symm.trans h)
noncomputable def m_atWork (σ : zz_S) : zz_R := (m_atWork_4 zz_fu 0 0 σ)
set_option maxRecDepth 100000 in
set_option maxHeartbeats 4000000 in
theorem ze_m_atWork (σ : zz_S) : m_atWork σ = zz_ev (zz_CE []) (zz_KE [(4, [(0, 42, true), (1, 0, false), (2, 0, false)], zz_f2 (m_atWork_4 zz_fu))]) zk_m_atWork 0 false 0 1 400 true (zz_sk zk_m_atWork 0) [(0, 42, 1)] [] σ := rfl
theorem zo_m_atWork : zz_okb zM_m_atWork 0 [(0, 42, true)] (zz_f0 m_atWork) :=
  fun vs σ r τ h => by
    obtain ⟨rfl, h⟩ := zz_f0_ok h
    exact zz_from zc_m_atWork zz_oc0 (zz_olc (zo_m_atWork_4 zz_fu) zz_ol0) ((ze_m_atWork σ).symm.trans h)
noncomputable def zw_m_atWork : List Int → zz_S → zz_R := zz_f1 fun a0 σ => if a0 = 1 then m_atWork σ else none
theorem zo_m_m_atWork : zz_okm zz_inf 111 zw_m_atWork := fun vs σ r τ h => by
  obtain ⟨a0, rfl, h⟩ := zz_f1_ok h
  obtain ⟨e, h⟩ := zz_it h
  subst e
  exact zz_meth zi_m_atWork zy_m_atWork (zo_m_atWork [] σ r τ h)
def zk_m_isRunning : List zz_E := [(0, false, .iconst 0, 1, 0, (0, 0, 0, 0), 0, []),
  (1, false, .istore_n 2, 1, 0, (0, 0, 0, 0), 0, []),
  (2, true, .iload_n 2, 1, 0, (0, 0, 0, 0), 0, []),
  (3, false, .aload_n 0, 1, 0, (0, 0, 0, 0), 0, []),
  (4, false, .getfield 13, 3, 798, (40, 4, 0, 0), 0, []),
  (7, false, .if_icmp .ge 36, 3, 0, (43, 0, 0, 0), 0, []),
  (10, false, .aload_n 0, 1, 0, (0, 0, 0, 0), 0, []),
  (11, false, .getfield 16, 3, 799, (40, 5, 43, 1), 0, []),
  (14, false, .iload_n 2, 1, 0, (0, 0, 0, 0), 0, []),
  (15, false, .iaload, 1, 0, (41, 0, 0, 0), 0, []),
  (16, false, .iconst (-1), 1, 0, (0, 0, 0, 0), 0, []),
  (17, false, .if_icmp .eq 20, 3, 0, (37, 0, 0, 0), 0, []),
  (20, false, .aload_n 0, 1, 0, (0, 0, 0, 0), 0, []),
  (21, false, .getfield 120, 3, 837, (40, 43, 77, 1), 0, []),
  (24, false, .aload_n 0, 1, 0, (0, 0, 0, 0), 0, []),
  (25, false, .getfield 16, 3, 799, (40, 5, 43, 1), 0, []),
  (28, false, .iload_n 2, 1, 0, (0, 0, 0, 0), 0, []),
  (29, false, .iaload, 1, 0, (41, 0, 0, 0), 0, []),
  (30, false, .iaload, 1, 0, (75, 0, 0, 0), 0, []),
  (31, false, .iload_n 1, 1, 0, (0, 0, 0, 0), 0, []),
  (32, false, .if_icmp .ne 5, 3, 0, (37, 0, 0, 0), 0, []),
  (35, false, .iconst 1, 1, 0, (0, 0, 0, 0), 0, []),
  (36, false, .ireturn, 1, 0, (0, 0, 0, 0), 0, []),
  (37, false, .iinc 2 1, 3, 0, (0, 0, 0, 0), 0, []),
  (40, false, .goto (-38), 3, 0, (2, 0, 0, 0), 0, []),
  (43, false, .iconst 0, 1, 0, (0, 0, 0, 0), 0, []),
  (44, false, .ireturn, 1, 0, (0, 0, 0, 0), 0, [])]
theorem zc_m_isRunning : zk_m_isRunning.all (zz_ck zz_inf zM_m_isRunning) = true ∧ zz_ch zk_m_isRunning = true := ⟨by decide +kernel, by decide +kernel⟩
noncomputable def m_isRunning_2 : Nat → Int → Int → zz_S → zz_R
  | 0, _, _, _ => none
  | n + 1, v1, v2, σ => (if v2 < (zz_h σ 40 1 4) then (if zz_b σ 41 1 v2 then (if (zz_h σ 41 1 v2) = (-1) then (m_isRunning_2 n v1 (zz_r (v2 + 1)) σ) else (if zz_b σ 41 1 v2 then (if zz_b σ 75 1 (zz_h σ 41 1 v2) then (if (zz_h σ 75 1 (zz_h σ 41 1 v2)) = v1 then (some (1, σ)) else (m_isRunning_2 n v1 (zz_r (v2 + 1)) σ)) else none) else none)) else none) else (some (0, σ)))
set_option maxRecDepth 100000 in
set_option maxHeartbeats 4000000 in
theorem ze_m_isRunning_2 (n : Nat) (v1 v2 : Int) (σ : zz_S) : m_isRunning_2 (n + 1) v1 v2 σ = zz_ev (zz_CE []) (zz_KE [(2, [(0, 42, true), (1, 0, false), (2, 0, false)], zz_f2 (m_isRunning_2 n))]) zk_m_isRunning 0 true 0 1 400 true (zz_sk zk_m_isRunning 2) [(0, 42, 1), (1, 0, v1), (2, 0, v2)] [] σ := rfl
theorem zo_m_isRunning_2 : ∀ n : Nat, zz_okb zM_m_isRunning 2 [(0, 42, true), (1, 0, false), (2, 0, false)] (zz_f2 (m_isRunning_2 n))
  | 0 => fun vs σ r τ h => by
    obtain ⟨v1, v2, rfl, h⟩ := zz_f2_ok h
    exact nomatch (show (none : zz_R) = some (r, τ) from h)
  | n + 1 => by
    have ih := zo_m_isRunning_2 n
    exact fun vs σ r τ h => by
        obtain ⟨v1, v2, rfl, h⟩ := zz_f2_ok h
        exact zz_from zc_m_isRunning zz_oc0 (zz_olc ih zz_ol0) ((ze_m_isRunning_2 n v1 v2 σ).symm.trans h)
noncomputable def m_isRunning (v1 : Int) (σ : zz_S) : zz_R := (m_isRunning_2 zz_fu v1 0 σ)
set_option maxRecDepth 100000 in
set_option maxHeartbeats 4000000 in
theorem ze_m_isRunning (v1 : Int) (σ : zz_S) : m_isRunning v1 σ = zz_ev (zz_CE []) (zz_KE [(2, [(0, 42, true), (1, 0, false), (2, 0, false)], zz_f2 (m_isRunning_2 zz_fu))]) zk_m_isRunning 0 true 0 1 400 true (zz_sk zk_m_isRunning 0) [(0, 42, 1), (1, 0, v1)] [] σ := rfl
theorem zo_m_isRunning : zz_okb zM_m_isRunning 0 [(0, 42, true), (1, 0, false)] (zz_f1 m_isRunning) :=
  fun vs σ r τ h => by
    obtain ⟨v1, rfl, h⟩ := zz_f1_ok h
    exact zz_from zc_m_isRunning zz_oc0 (zz_olc (zo_m_isRunning_2 zz_fu) zz_ol0) ((ze_m_isRunning v1 σ).symm.trans h)
noncomputable def zw_m_isRunning : List Int → zz_S → zz_R := zz_f2 fun a0 a1 σ => if a0 = 1 then m_isRunning a1 σ else none
theorem zo_m_m_isRunning : zz_okm zz_inf 112 zw_m_isRunning := fun vs σ r τ h => by
  obtain ⟨a0, a1, rfl, h⟩ := zz_f2_ok h
  obtain ⟨e, h⟩ := zz_it h
  subst e
  exact zz_meth zi_m_isRunning zy_m_isRunning (zo_m_isRunning [a1] σ r τ h)
def zk_m_loadOf : List zz_E := [(0, false, .iconst 0, 1, 0, (0, 0, 0, 0), 0, []),
  (1, false, .istore_n 2, 1, 0, (0, 0, 0, 0), 0, []),
  (2, false, .iconst 0, 1, 0, (0, 0, 0, 0), 0, []),
  (3, false, .istore_n 3, 1, 0, (0, 0, 0, 0), 0, []),
  (4, true, .iload_n 3, 1, 0, (0, 0, 0, 0), 0, []),
  (5, false, .aload_n 0, 1, 0, (0, 0, 0, 0), 0, []),
  (6, false, .getfield 13, 3, 798, (40, 4, 0, 0), 0, []),
  (9, false, .if_icmp .ge 37, 3, 0, (46, 0, 0, 0), 0, []),
  (12, false, .aload_n 0, 1, 0, (0, 0, 0, 0), 0, []),
  (13, false, .getfield 16, 3, 799, (40, 5, 43, 1), 0, []),
  (16, false, .iload_n 3, 1, 0, (0, 0, 0, 0), 0, []),
  (17, false, .iaload, 1, 0, (41, 0, 0, 0), 0, []),
  (18, false, .iconst (-1), 1, 0, (0, 0, 0, 0), 0, []),
  (19, false, .if_icmp .eq 21, 3, 0, (40, 0, 0, 0), 0, []),
  (22, false, .aload_n 0, 1, 0, (0, 0, 0, 0), 0, []),
  (23, false, .getfield 144, 3, 845, (40, 51, 85, 1), 0, []),
  (26, false, .aload_n 0, 1, 0, (0, 0, 0, 0), 0, []),
  (27, false, .getfield 16, 3, 799, (40, 5, 43, 1), 0, []),
  (30, false, .iload_n 3, 1, 0, (0, 0, 0, 0), 0, []),
  (31, false, .iaload, 1, 0, (41, 0, 0, 0), 0, []),
  (32, false, .iaload, 1, 0, (83, 0, 0, 0), 0, []),
  (33, false, .iload_n 1, 1, 0, (0, 0, 0, 0), 0, []),
  (34, false, .if_icmp .ne 6, 3, 0, (40, 0, 0, 0), 0, []),
  (37, false, .iinc 2 1, 3, 0, (0, 0, 0, 0), 0, []),
  (40, false, .iinc 3 1, 3, 0, (0, 0, 0, 0), 0, []),
  (43, false, .goto (-39), 3, 0, (4, 0, 0, 0), 0, []),
  (46, false, .iload_n 2, 1, 0, (0, 0, 0, 0), 0, []),
  (47, false, .ireturn, 1, 0, (0, 0, 0, 0), 0, [])]
theorem zc_m_loadOf : zk_m_loadOf.all (zz_ck zz_inf zM_m_loadOf) = true ∧ zz_ch zk_m_loadOf = true := ⟨by decide +kernel, by decide +kernel⟩
noncomputable def m_loadOf_4 : Nat → Int → Int → Int → zz_S → zz_R
  | 0, _, _, _, _ => none
  | n + 1, v1, v2, v3, σ => (if v3 < (zz_h σ 40 1 4) then (if zz_b σ 41 1 v3 then (if (zz_h σ 41 1 v3) = (-1) then (m_loadOf_4 n v1 v2 (zz_r (v3 + 1)) σ) else (if zz_b σ 41 1 v3 then (if zz_b σ 83 1 (zz_h σ 41 1 v3) then (if (zz_h σ 83 1 (zz_h σ 41 1 v3)) = v1 then (m_loadOf_4 n v1 (zz_r (v2 + 1)) (zz_r (v3 + 1)) σ) else (m_loadOf_4 n v1 v2 (zz_r (v3 + 1)) σ)) else none) else none)) else none) else (some (v2, σ)))
set_option maxRecDepth 100000 in
set_option maxHeartbeats 4000000 in
theorem ze_m_loadOf_4 (n : Nat) (v1 v2 v3 : Int) (σ : zz_S) : m_loadOf_4 (n + 1) v1 v2 v3 σ = zz_ev (zz_CE []) (zz_KE [(4, [(0, 42, true), (1, 0, false), (2, 0, false), (3, 0, false)], zz_f3 (m_loadOf_4 n))]) zk_m_loadOf 0 false 0 1 400 true (zz_sk zk_m_loadOf 4) [(0, 42, 1), (1, 0, v1), (2, 0, v2), (3, 0, v3)] [] σ := rfl
theorem zo_m_loadOf_4 : ∀ n : Nat, zz_okb zM_m_loadOf 4 [(0, 42, true), (1, 0, false), (2, 0, false), (3, 0, false)] (zz_f3 (m_loadOf_4 n))
  | 0 => fun vs σ r τ h => by
    obtain ⟨v1, v2, v3, rfl, h⟩ := zz_f3_ok h
    exact nomatch (show (none : zz_R) = some (r, τ) from h)
  | n + 1 => by
    have ih := zo_m_loadOf_4 n
    exact fun vs σ r τ h => by
        obtain ⟨v1, v2, v3, rfl, h⟩ := zz_f3_ok h
        exact zz_from zc_m_loadOf zz_oc0 (zz_olc ih zz_ol0) ((ze_m_loadOf_4 n v1 v2 v3 σ).symm.trans h)
noncomputable def m_loadOf (v1 : Int) (σ : zz_S) : zz_R := (m_loadOf_4 zz_fu v1 0 0 σ)
set_option maxRecDepth 100000 in
set_option maxHeartbeats 4000000 in
theorem ze_m_loadOf (v1 : Int) (σ : zz_S) : m_loadOf v1 σ = zz_ev (zz_CE []) (zz_KE [(4, [(0, 42, true), (1, 0, false), (2, 0, false), (3, 0, false)], zz_f3 (m_loadOf_4 zz_fu))]) zk_m_loadOf 0 false 0 1 400 true (zz_sk zk_m_loadOf 0) [(0, 42, 1), (1, 0, v1)] [] σ := rfl
theorem zo_m_loadOf : zz_okb zM_m_loadOf 0 [(0, 42, true), (1, 0, false)] (zz_f1 m_loadOf) :=
  fun vs σ r τ h => by
    obtain ⟨v1, rfl, h⟩ := zz_f1_ok h
    exact zz_from zc_m_loadOf zz_oc0 (zz_olc (zo_m_loadOf_4 zz_fu) zz_ol0) ((ze_m_loadOf v1 σ).symm.trans h)
noncomputable def zw_m_loadOf : List Int → zz_S → zz_R := zz_f2 fun a0 a1 σ => if a0 = 1 then m_loadOf a1 σ else none
theorem zo_m_m_loadOf : zz_okm zz_inf 113 zw_m_loadOf := fun vs σ r τ h => by
  obtain ⟨a0, a1, rfl, h⟩ := zz_f2_ok h
  obtain ⟨e, h⟩ := zz_it h
  subst e
  exact zz_meth zi_m_loadOf zy_m_loadOf (zo_m_loadOf [a1] σ r τ h)
def zk_m_duesOf : List zz_E := [(0, false, .iconst 0, 1, 0, (0, 0, 0, 0), 0, []),
  (1, false, .istore_n 2, 1, 0, (0, 0, 0, 0), 0, []),
  (2, false, .iconst 0, 1, 0, (0, 0, 0, 0), 0, []),
  (3, false, .istore_n 3, 1, 0, (0, 0, 0, 0), 0, []),
  (4, true, .iload_n 3, 1, 0, (0, 0, 0, 0), 0, []),
  (5, false, .aload_n 0, 1, 0, (0, 0, 0, 0), 0, []),
  (6, false, .getfield 178, 3, 847, (40, 53, 0, 0), 0, []),
  (9, false, .if_icmp .ge 22, 3, 0, (31, 0, 0, 0), 0, []),
  (12, false, .aload_n 0, 1, 0, (0, 0, 0, 0), 0, []),
  (13, false, .getfield 150, 3, 848, (40, 54, 87, 1), 0, []),
  (16, false, .iload_n 3, 1, 0, (0, 0, 0, 0), 0, []),
  (17, false, .iaload, 1, 0, (85, 0, 0, 0), 0, []),
  (18, false, .iload_n 1, 1, 0, (0, 0, 0, 0), 0, []),
  (19, false, .if_icmp .ne 6, 3, 0, (25, 0, 0, 0), 0, []),
  (22, false, .iinc 2 1, 3, 0, (0, 0, 0, 0), 0, []),
  (25, false, .iinc 3 1, 3, 0, (0, 0, 0, 0), 0, []),
  (28, false, .goto (-24), 3, 0, (4, 0, 0, 0), 0, []),
  (31, false, .iload_n 2, 1, 0, (0, 0, 0, 0), 0, []),
  (32, false, .ireturn, 1, 0, (0, 0, 0, 0), 0, [])]
theorem zc_m_duesOf : zk_m_duesOf.all (zz_ck zz_inf zM_m_duesOf) = true ∧ zz_ch zk_m_duesOf = true := ⟨by decide +kernel, by decide +kernel⟩
noncomputable def m_duesOf_4 : Nat → Int → Int → Int → zz_S → zz_R
  | 0, _, _, _, _ => none
  | n + 1, v1, v2, v3, σ => (if v3 < (zz_h σ 40 1 53) then (if zz_b σ 85 1 v3 then (if (zz_h σ 85 1 v3) = v1 then (m_duesOf_4 n v1 (zz_r (v2 + 1)) (zz_r (v3 + 1)) σ) else (m_duesOf_4 n v1 v2 (zz_r (v3 + 1)) σ)) else none) else (some (v2, σ)))
set_option maxRecDepth 100000 in
set_option maxHeartbeats 4000000 in
theorem ze_m_duesOf_4 (n : Nat) (v1 v2 v3 : Int) (σ : zz_S) : m_duesOf_4 (n + 1) v1 v2 v3 σ = zz_ev (zz_CE []) (zz_KE [(4, [(0, 42, true), (1, 0, false), (2, 0, false), (3, 0, false)], zz_f3 (m_duesOf_4 n))]) zk_m_duesOf 0 false 0 1 400 true (zz_sk zk_m_duesOf 4) [(0, 42, 1), (1, 0, v1), (2, 0, v2), (3, 0, v3)] [] σ := rfl
theorem zo_m_duesOf_4 : ∀ n : Nat, zz_okb zM_m_duesOf 4 [(0, 42, true), (1, 0, false), (2, 0, false), (3, 0, false)] (zz_f3 (m_duesOf_4 n))
  | 0 => fun vs σ r τ h => by
    obtain ⟨v1, v2, v3, rfl, h⟩ := zz_f3_ok h
    exact nomatch (show (none : zz_R) = some (r, τ) from h)
  | n + 1 => by
    have ih := zo_m_duesOf_4 n
    exact fun vs σ r τ h => by
        obtain ⟨v1, v2, v3, rfl, h⟩ := zz_f3_ok h
        exact zz_from zc_m_duesOf zz_oc0 (zz_olc ih zz_ol0) ((ze_m_duesOf_4 n v1 v2 v3 σ).symm.trans h)
noncomputable def m_duesOf (v1 : Int) (σ : zz_S) : zz_R := (m_duesOf_4 zz_fu v1 0 0 σ)
set_option maxRecDepth 100000 in
set_option maxHeartbeats 4000000 in
theorem ze_m_duesOf (v1 : Int) (σ : zz_S) : m_duesOf v1 σ = zz_ev (zz_CE []) (zz_KE [(4, [(0, 42, true), (1, 0, false), (2, 0, false), (3, 0, false)], zz_f3 (m_duesOf_4 zz_fu))]) zk_m_duesOf 0 false 0 1 400 true (zz_sk zk_m_duesOf 0) [(0, 42, 1), (1, 0, v1)] [] σ := rfl
theorem zo_m_duesOf : zz_okb zM_m_duesOf 0 [(0, 42, true), (1, 0, false)] (zz_f1 m_duesOf) :=
  fun vs σ r τ h => by
    obtain ⟨v1, rfl, h⟩ := zz_f1_ok h
    exact zz_from zc_m_duesOf zz_oc0 (zz_olc (zo_m_duesOf_4 zz_fu) zz_ol0) ((ze_m_duesOf v1 σ).symm.trans h)
noncomputable def zw_m_duesOf : List Int → zz_S → zz_R := zz_f2 fun a0 a1 σ => if a0 = 1 then m_duesOf a1 σ else none
theorem zo_m_m_duesOf : zz_okm zz_inf 114 zw_m_duesOf := fun vs σ r τ h => by
  obtain ⟨a0, a1, rfl, h⟩ := zz_f2_ok h
  obtain ⟨e, h⟩ := zz_it h
  subst e
  exact zz_meth zi_m_duesOf zy_m_duesOf (zo_m_duesOf [a1] σ r τ h)
def zk_m_monthLength : List zz_E := [(0, false, .iload_n 0, 1, 0, (0, 0, 0, 0), 0, []),
  (1, false, .iconst 2, 1, 0, (0, 0, 0, 0), 0, []),
  (2, false, .if_icmp .ne 6, 3, 0, (8, 0, 0, 0), 0, []),
  (5, false, .bipush 28, 2, 0, (0, 0, 0, 0), 0, []),
  (7, false, .ireturn, 1, 0, (0, 0, 0, 0), 0, []),
  (8, false, .iload_n 0, 1, 0, (0, 0, 0, 0), 0, []),
  (9, false, .iconst 4, 1, 0, (0, 0, 0, 0), 0, []),
  (10, false, .if_icmp .eq 21, 3, 0, (31, 0, 0, 0), 0, []),
  (13, false, .iload_n 0, 1, 0, (0, 0, 0, 0), 0, []),
  (14, false, .bipush 6, 2, 0, (0, 0, 0, 0), 0, []),
  (16, false, .if_icmp .eq 15, 3, 0, (31, 0, 0, 0), 0, []),
  (19, false, .iload_n 0, 1, 0, (0, 0, 0, 0), 0, []),
  (20, false, .bipush 9, 2, 0, (0, 0, 0, 0), 0, []),
  (22, false, .if_icmp .eq 9, 3, 0, (31, 0, 0, 0), 0, []),
  (25, false, .iload_n 0, 1, 0, (0, 0, 0, 0), 0, []),
  (26, false, .bipush 11, 2, 0, (0, 0, 0, 0), 0, []),
  (28, false, .if_icmp .ne 8, 3, 0, (36, 0, 0, 0), 0, []),
  (31, false, .bipush 30, 2, 0, (0, 0, 0, 0), 0, []),
  (33, false, .goto 5, 3, 0, (38, 0, 0, 0), 0, []),
  (36, false, .bipush 31, 2, 0, (0, 0, 0, 0), 0, []),
  (38, false, .ireturn, 1, 0, (0, 0, 0, 0), 0, [])]
theorem zc_m_monthLength : zk_m_monthLength.all (zz_ck zz_inf zM_m_monthLength) = true ∧ zz_ch zk_m_monthLength = true := ⟨by decide +kernel, by decide +kernel⟩
noncomputable def m_monthLength (v0 : Int) (σ : zz_S) : zz_R := (if v0 = 2 then (some (28, σ)) else (if v0 = 4 then (some (30, σ)) else (if v0 = 6 then (some (30, σ)) else (if v0 = 9 then (some (30, σ)) else (if v0 = 11 then (some (30, σ)) else (some (31, σ)))))))
set_option maxRecDepth 100000 in
set_option maxHeartbeats 4000000 in
theorem ze_m_monthLength (v0 : Int) (σ : zz_S) : m_monthLength v0 σ = zz_ev (zz_CE []) (zz_KE []) zk_m_monthLength 0 false 0 1 400 true (zz_sk zk_m_monthLength 0) [(0, 0, v0)] [] σ := rfl
theorem zo_m_monthLength : zz_okb zM_m_monthLength 0 [(0, 0, false)] (zz_f1 m_monthLength) :=
  fun vs σ r τ h => by
    obtain ⟨v0, rfl, h⟩ := zz_f1_ok h
    exact zz_from zc_m_monthLength zz_oc0 zz_ol0 ((ze_m_monthLength v0 σ).symm.trans h)
noncomputable def zw_m_monthLength : List Int → zz_S → zz_R := zz_f1 fun a0 σ => m_monthLength a0 σ
theorem zo_m_m_monthLength : zz_okm zz_inf 115 zw_m_monthLength := fun vs σ r τ h => by
  obtain ⟨a0, rfl, h⟩ := zz_f1_ok h
  exact zz_meth zi_m_monthLength zy_m_monthLength (zo_m_monthLength [a0] σ r τ h)
def zk_m_look : List zz_E := [(0, false, .iload_n 1, 1, 0, (0, 0, 0, 0), 0, []),
  (1, false, .sipush 365, 3, 0, (0, 0, 0, 0), 0, []),
  (4, false, .irem, 1, 0, (0, 0, 0, 0), 0, []),
  (5, false, .istore_n 2, 1, 0, (0, 0, 0, 0), 0, []),
  (6, false, .aload_n 0, 1, 0, (0, 0, 0, 0), 0, []),
  (7, false, .iconst 1, 1, 0, (0, 0, 0, 0), 0, []),
  (8, false, .putfield 181, 3, 856, (40, 62, 0, 0), 0, []),
  (11, true, .iload_n 2, 1, 0, (0, 0, 0, 0), 0, []),
  (12, false, .aload_n 0, 1, 0, (0, 0, 0, 0), 0, []),
  (13, false, .getfield 181, 3, 856, (40, 62, 0, 0), 0, []),
  (16, false, .invokestatic 184, 3, 1080, (115, 1, 0, 0), 0, [0]),
  (19, false, .if_icmp .lt 26, 3, 0, (45, 0, 0, 0), 0, []),
  (22, false, .iload_n 2, 1, 0, (0, 0, 0, 0), 0, []),
  (23, false, .aload_n 0, 1, 0, (0, 0, 0, 0), 0, []),
  (24, false, .getfield 181, 3, 856, (40, 62, 0, 0), 0, []),
  (27, false, .invokestatic 184, 3, 1080, (115, 1, 0, 0), 0, [0]),
  (30, false, .isub, 1, 0, (0, 0, 0, 0), 0, []),
  (31, false, .istore_n 2, 1, 0, (0, 0, 0, 0), 0, []),
  (32, false, .aload_n 0, 1, 0, (0, 0, 0, 0), 0, []),
  (33, false, .dup, 1, 0, (0, 0, 0, 0), 0, []),
  (34, false, .getfield 181, 3, 856, (40, 62, 0, 0), 0, []),
  (37, false, .iconst 1, 1, 0, (0, 0, 0, 0), 0, []),
  (38, false, .iadd, 1, 0, (0, 0, 0, 0), 0, []),
  (39, false, .putfield 181, 3, 856, (40, 62, 0, 0), 0, []),
  (42, false, .goto (-31), 3, 0, (11, 0, 0, 0), 0, []),
  (45, false, .aload_n 0, 1, 0, (0, 0, 0, 0), 0, []),
  (46, false, .iload_n 2, 1, 0, (0, 0, 0, 0), 0, []),
  (47, false, .iconst 1, 1, 0, (0, 0, 0, 0), 0, []),
  (48, false, .iadd, 1, 0, (0, 0, 0, 0), 0, []),
  (49, false, .putfield 188, 3, 857, (40, 63, 0, 0), 0, []),
  (52, false, .aload_n 0, 1, 0, (0, 0, 0, 0), 0, []),
  (53, false, .aload_n 0, 1, 0, (0, 0, 0, 0), 0, []),
  (54, false, .getfield 181, 3, 856, (40, 62, 0, 0), 0, []),
  (57, false, .invokestatic 184, 3, 1080, (115, 1, 0, 0), 0, [0]),
  (60, false, .putfield 191, 3, 859, (40, 65, 0, 0), 0, []),
  (63, false, .aload_n 0, 1, 0, (0, 0, 0, 0), 0, []),
  (64, false, .iload_n 1, 1, 0, (0, 0, 0, 0), 0, []),
  (65, false, .bipush 7, 2, 0, (0, 0, 0, 0), 0, []),
  (67, false, .irem, 1, 0, (0, 0, 0, 0), 0, []),
  (68, false, .putfield 194, 3, 858, (40, 64, 0, 0), 0, []),
  (71, false, .return_, 1, 0, (0, 0, 0, 0), 0, [])]
theorem zc_m_look : zk_m_look.all (zz_ck zz_inf zM_m_look) = true ∧ zz_ch zk_m_look = true := ⟨by decide +kernel, by decide +kernel⟩
noncomputable def m_look_11 : Nat → Int → Int → zz_S → zz_R
  | 0, _, _, _ => none
  | n + 1, v1, v2, σ => ((m_monthLength (zz_h σ 40 1 62) σ).bind fun q1 => (if v2 < q1.1 then (let s2 := zz_w q1.2 40 1 63 (zz_r (v2 + 1)); ((m_monthLength (zz_h s2 40 1 62) s2).bind fun q3 => (let s4 := zz_w q3.2 40 1 65 q3.1; (let s5 := zz_w s4 40 1 64 (zz_rem v1 7); (some (0, s5)))))) else ((m_monthLength (zz_h q1.2 40 1 62) q1.2).bind fun q6 => (let s7 := zz_w q6.2 40 1 62 (zz_r ((zz_h q6.2 40 1 62) + 1)); (m_look_11 n v1 (zz_r (v2 - q6.1)) s7)))))
set_option maxRecDepth 100000 in
set_option maxHeartbeats 4000000 in
theorem ze_m_look_11 (n : Nat) (v1 v2 : Int) (σ : zz_S) : m_look_11 (n + 1) v1 v2 σ = zz_ev (zz_CE [(115, zw_m_monthLength)]) (zz_KE [(11, [(0, 42, true), (1, 0, false), (2, 0, false)], zz_f2 (m_look_11 n))]) zk_m_look 999 false 0 1 400 true (zz_sk zk_m_look 11) [(0, 42, 1), (1, 0, v1), (2, 0, v2)] [] σ := rfl
theorem zo_m_look_11 : ∀ n : Nat, zz_okb zM_m_look 11 [(0, 42, true), (1, 0, false), (2, 0, false)] (zz_f2 (m_look_11 n))
  | 0 => fun vs σ r τ h => by
    obtain ⟨v1, v2, rfl, h⟩ := zz_f2_ok h
    exact nomatch (show (none : zz_R) = some (r, τ) from h)
  | n + 1 => by
    have ih := zo_m_look_11 n
    exact fun vs σ r τ h => by
        obtain ⟨v1, v2, rfl, h⟩ := zz_f2_ok h
        exact zz_from zc_m_look (zz_occ zo_m_m_monthLength zz_oc0) (zz_olc ih zz_ol0) ((ze_m_look_11 n v1 v2 σ).symm.trans h)
noncomputable def m_look (v1 : Int) (σ : zz_S) : zz_R := (let s1 := zz_w σ 40 1 62 1; (m_look_11 zz_fu v1 (zz_rem v1 365) s1))
set_option maxRecDepth 100000 in
set_option maxHeartbeats 4000000 in
theorem ze_m_look (v1 : Int) (σ : zz_S) : m_look v1 σ = zz_ev (zz_CE []) (zz_KE [(11, [(0, 42, true), (1, 0, false), (2, 0, false)], zz_f2 (m_look_11 zz_fu))]) zk_m_look 999 false 0 1 400 true (zz_sk zk_m_look 0) [(0, 42, 1), (1, 0, v1)] [] σ := rfl
theorem zo_m_look : zz_okb zM_m_look 0 [(0, 42, true), (1, 0, false)] (zz_f1 m_look) :=
  fun vs σ r τ h => by
    obtain ⟨v1, rfl, h⟩ := zz_f1_ok h
    exact zz_from zc_m_look zz_oc0 (zz_olc (zo_m_look_11 zz_fu) zz_ol0) ((ze_m_look v1 σ).symm.trans h)
noncomputable def zw_m_look : List Int → zz_S → zz_R := zz_f2 fun a0 a1 σ => if a0 = 1 then m_look a1 σ else none
theorem zo_m_m_look : zz_okm zz_inf 116 zw_m_look := fun vs σ r τ h => by
  obtain ⟨a0, a1, rfl, h⟩ := zz_f2_ok h
  obtain ⟨e, h⟩ := zz_it h
  subst e
  exact zz_meth zi_m_look zy_m_look (zo_m_look [a1] σ r τ h)
def zk_m_fitsDay : List zz_E := [(0, false, .iconst 4, 1, 0, (0, 0, 0, 0), 0, []),
  (1, false, .iload_n 1, 1, 0, (0, 0, 0, 0), 0, []),
  (2, false, .imul, 1, 0, (0, 0, 0, 0), 0, []),
  (3, false, .istore_n 2, 1, 0, (0, 0, 0, 0), 0, []),
  (4, true, .iload_n 2, 1, 0, (0, 0, 0, 0), 0, []),
  (5, false, .iconst 4, 1, 0, (0, 0, 0, 0), 0, []),
  (6, false, .iload_n 1, 1, 0, (0, 0, 0, 0), 0, []),
  (7, false, .imul, 1, 0, (0, 0, 0, 0), 0, []),
  (8, false, .aload_n 0, 1, 0, (0, 0, 0, 0), 0, []),
  (9, false, .getfield 87, 3, 824, (40, 30, 66, 1), 0, []),
  (12, false, .iload_n 1, 1, 0, (0, 0, 0, 0), 0, []),
  (13, false, .iaload, 1, 0, (64, 0, 0, 0), 0, []),
  (14, false, .iadd, 1, 0, (0, 0, 0, 0), 0, []),
  (15, false, .if_icmp .ge 233, 3, 0, (248, 0, 0, 0), 0, []),
  (18, false, .aload_n 0, 1, 0, (0, 0, 0, 0), 0, []),
  (19, false, .getfield 93, 3, 826, (40, 32, 68, 1), 0, []),
  (22, false, .iload_n 2, 1, 0, (0, 0, 0, 0), 0, []),
  (23, false, .iaload, 1, 0, (66, 0, 0, 0), 0, []),
  (24, false, .istore_n 3, 1, 0, (0, 0, 0, 0), 0, []),
  (25, false, .aload_n 0, 1, 0, (0, 0, 0, 0), 0, []),
  (26, false, .getfield 96, 3, 827, (40, 33, 69, 1), 0, []),
  (29, false, .iload_n 2, 1, 0, (0, 0, 0, 0), 0, []),
  (30, false, .iaload, 1, 0, (67, 0, 0, 0), 0, []),
  (31, false, .istore 4, 2, 0, (0, 0, 0, 0), 0, []),
  (33, false, .iconst 1, 1, 0, (0, 0, 0, 0), 0, []),
  (34, false, .istore 5, 2, 0, (0, 0, 0, 0), 0, []),
  (36, false, .aload_n 0, 1, 0, (0, 0, 0, 0), 0, []),
  (37, false, .getfield 90, 3, 825, (40, 31, 67, 1), 0, []),
  (40, false, .iload_n 2, 1, 0, (0, 0, 0, 0), 0, []),
  (41, false, .iaload, 1, 0, (65, 0, 0, 0), 0, []),
  (42, false, .tableswitch 193 3 8 #[38, 56, 102, 120, 141, 175], 38, 0, (235, 0, 0, 0), 3, [80, 98, 144, 162, 183, 217]),
  (80, false, .aload_n 0, 1, 0, (0, 0, 0, 0), 0, []),
  (81, false, .getfield 194, 3, 858, (40, 64, 0, 0), 0, []),
  (84, false, .iload_n 3, 1, 0, (0, 0, 0, 0), 0, []),
  (85, false, .if_icmp .ne 7, 3, 0, (92, 0, 0, 0), 0, []),
  (88, false, .iconst 1, 1, 0, (0, 0, 0, 0), 0, []),
  (89, false, .goto 4, 3, 0, (93, 0, 0, 0), 0, []),
  (92, false, .iconst 0, 1, 0, (0, 0, 0, 0), 0, []),
  (93, false, .istore 5, 2, 0, (0, 0, 0, 0), 0, []),
  (95, false, .goto 140, 3, 0, (235, 0, 0, 0), 0, []),
  (98, false, .iload_n 3, 1, 0, (0, 0, 0, 0), 0, []),
  (99, false, .iload 4, 2, 0, (0, 0, 0, 0), 0, []),
  (101, false, .if_icmp .gt 16, 3, 0, (117, 0, 0, 0), 0, []),
  (104, false, .aload_n 0, 1, 0, (0, 0, 0, 0), 0, []),
  (105, false, .getfield 194, 3, 858, (40, 64, 0, 0), 0, []),
  (108, false, .iload_n 3, 1, 0, (0, 0, 0, 0), 0, []),
  (109, false, .iload 4, 2, 0, (0, 0, 0, 0), 0, []),
  (111, false, .invokestatic 174, 3, 1021, (108, 3, 0, 0), 0, [0, 0, 0]),
  (114, false, .goto 25, 3, 0, (139, 0, 0, 0), 0, []),
  (117, false, .aload_n 0, 1, 0, (0, 0, 0, 0), 0, []),
  (118, false, .getfield 194, 3, 858, (40, 64, 0, 0), 0, []),
  (121, false, .iload_n 3, 1, 0, (0, 0, 0, 0), 0, []),
  (122, false, .if_icmp .ge 12, 3, 0, (134, 0, 0, 0), 0, []),
  (125, false, .aload_n 0, 1, 0, (0, 0, 0, 0), 0, []),
  (126, false, .getfield 194, 3, 858, (40, 64, 0, 0), 0, []),
  (129, false, .iload 4, 2, 0, (0, 0, 0, 0), 0, []),
  (131, false, .if_icmp .gt 7, 3, 0, (138, 0, 0, 0), 0, []),
  (134, true, .iconst 1, 1, 0, (0, 0, 0, 0), 0, []),
  (135, false, .goto 4, 3, 0, (139, 0, 0, 0), 0, []),
  (138, false, .iconst 0, 1, 0, (0, 0, 0, 0), 0, []),
  (139, false, .istore 5, 2, 0, (0, 0, 0, 0), 0, []),
  (141, false, .goto 94, 3, 0, (235, 0, 0, 0), 0, []),
  (144, false, .aload_n 0, 1, 0, (0, 0, 0, 0), 0, []),
  (145, false, .getfield 188, 3, 857, (40, 63, 0, 0), 0, []),
  (148, false, .iload_n 3, 1, 0, (0, 0, 0, 0), 0, []),
  (149, false, .if_icmp .ne 7, 3, 0, (156, 0, 0, 0), 0, []),
  (152, false, .iconst 1, 1, 0, (0, 0, 0, 0), 0, []),
  (153, false, .goto 4, 3, 0, (157, 0, 0, 0), 0, []),
  (156, false, .iconst 0, 1, 0, (0, 0, 0, 0), 0, []),
  (157, false, .istore 5, 2, 0, (0, 0, 0, 0), 0, []),
  (159, false, .goto 76, 3, 0, (235, 0, 0, 0), 0, []),
  (162, false, .aload_n 0, 1, 0, (0, 0, 0, 0), 0, []),
  (163, false, .getfield 188, 3, 857, (40, 63, 0, 0), 0, []),
  (166, false, .aload_n 0, 1, 0, (0, 0, 0, 0), 0, []),
  (167, false, .getfield 191, 3, 859, (40, 65, 0, 0), 0, []),
  (170, false, .if_icmp .ne 7, 3, 0, (177, 0, 0, 0), 0, []),
  (173, false, .iconst 1, 1, 0, (0, 0, 0, 0), 0, []),
  (174, false, .goto 4, 3, 0, (178, 0, 0, 0), 0, []),
  (177, false, .iconst 0, 1, 0, (0, 0, 0, 0), 0, []),
  (178, false, .istore 5, 2, 0, (0, 0, 0, 0), 0, []),
  (180, false, .goto 55, 3, 0, (235, 0, 0, 0), 0, []),
  (183, false, .aload_n 0, 1, 0, (0, 0, 0, 0), 0, []),
  (184, false, .getfield 194, 3, 858, (40, 64, 0, 0), 0, []),
  (187, false, .iload 4, 2, 0, (0, 0, 0, 0), 0, []),
  (189, false, .if_icmp .ne 22, 3, 0, (211, 0, 0, 0), 0, []),
  (192, false, .aload_n 0, 1, 0, (0, 0, 0, 0), 0, []),
  (193, false, .getfield 188, 3, 857, (40, 63, 0, 0), 0, []),
  (196, false, .iconst 1, 1, 0, (0, 0, 0, 0), 0, []),
  (197, false, .isub, 1, 0, (0, 0, 0, 0), 0, []),
  (198, false, .bipush 7, 2, 0, (0, 0, 0, 0), 0, []),
  (200, false, .idiv, 1, 0, (0, 0, 0, 0), 0, []),
  (201, false, .iconst 1, 1, 0, (0, 0, 0, 0), 0, []),
  (202, false, .iadd, 1, 0, (0, 0, 0, 0), 0, []),
  (203, false, .iload_n 3, 1, 0, (0, 0, 0, 0), 0, []),
  (204, false, .if_icmp .ne 7, 3, 0, (211, 0, 0, 0), 0, []),
  (207, false, .iconst 1, 1, 0, (0, 0, 0, 0), 0, []),
  (208, false, .goto 4, 3, 0, (212, 0, 0, 0), 0, []),
  (211, true, .iconst 0, 1, 0, (0, 0, 0, 0), 0, []),
  (212, false, .istore 5, 2, 0, (0, 0, 0, 0), 0, []),
  (214, false, .goto 21, 3, 0, (235, 0, 0, 0), 0, []),
  (217, false, .aload_n 0, 1, 0, (0, 0, 0, 0), 0, []),
  (218, false, .getfield 181, 3, 856, (40, 62, 0, 0), 0, []),
  (221, false, .iload_n 3, 1, 0, (0, 0, 0, 0), 0, []),
  (222, false, .if_icmp .ne 7, 3, 0, (229, 0, 0, 0), 0, []),
  (225, false, .iconst 1, 1, 0, (0, 0, 0, 0), 0, []),
  (226, false, .goto 4, 3, 0, (230, 0, 0, 0), 0, []),
  (229, false, .iconst 0, 1, 0, (0, 0, 0, 0), 0, []),
  (230, false, .istore 5, 2, 0, (0, 0, 0, 0), 0, []),
  (232, false, .goto 3, 3, 0, (235, 0, 0, 0), 0, []),
  (235, false, .iload 5, 2, 0, (0, 0, 0, 0), 0, []),
  (237, false, .ifCond .ne 5, 3, 0, (242, 0, 0, 0), 0, []),
  (240, false, .iconst 0, 1, 0, (0, 0, 0, 0), 0, []),
  (241, false, .ireturn, 1, 0, (0, 0, 0, 0), 0, []),
  (242, false, .iinc 2 1, 3, 0, (0, 0, 0, 0), 0, []),
  (245, false, .goto (-241), 3, 0, (4, 0, 0, 0), 0, []),
  (248, false, .iconst 1, 1, 0, (0, 0, 0, 0), 0, []),
  (249, false, .ireturn, 1, 0, (0, 0, 0, 0), 0, [])]
theorem zc_m_fitsDay : zk_m_fitsDay.all (zz_ck zz_inf zM_m_fitsDay) = true ∧ zz_ch zk_m_fitsDay = true := ⟨by decide +kernel, by decide +kernel⟩
noncomputable def m_fitsDay_211 (k4 : Int → Int → zz_S → zz_R) (v1 v2 : Int) (σ : zz_S) : zz_R := (some (0, σ))
set_option maxRecDepth 100000 in
set_option maxHeartbeats 4000000 in
theorem ze_m_fitsDay_211 (k4 : Int → Int → zz_S → zz_R) (v1 v2 : Int) (σ : zz_S) : m_fitsDay_211 k4 v1 v2 σ = zz_ev (zz_CE []) (zz_KE []) zk_m_fitsDay 0 true 0 1 400 true (zz_sk zk_m_fitsDay 211) [(0, 42, 1), (1, 0, v1), (2, 0, v2)] [] σ := rfl
theorem zo_m_fitsDay_211 (k4 : Int → Int → zz_S → zz_R) (hk4 : zz_okb zM_m_fitsDay 4 [(0, 42, true), (1, 0, false), (2, 0, false)] (zz_f2 k4)) : zz_okb zM_m_fitsDay 211 [(0, 42, true), (1, 0, false), (2, 0, false)] (zz_f2 (m_fitsDay_211 k4)) :=
  fun vs σ r τ h => by
    obtain ⟨v1, v2, rfl, h⟩ := zz_f2_ok h
    exact zz_from zc_m_fitsDay zz_oc0 zz_ol0 ((ze_m_fitsDay_211 k4 v1 v2 σ).symm.trans h)
noncomputable def m_fitsDay_134 (k4 : Int → Int → zz_S → zz_R) (v1 v2 : Int) (σ : zz_S) : zz_R := (k4 v1 (zz_r (v2 + 1)) σ)
set_option maxRecDepth 100000 in
set_option maxHeartbeats 4000000 in
theorem ze_m_fitsDay_134 (k4 : Int → Int → zz_S → zz_R) (v1 v2 : Int) (σ : zz_S) : m_fitsDay_134 k4 v1 v2 σ = zz_ev (zz_CE []) (zz_KE [(4, [(0, 42, true), (1, 0, false), (2, 0, false)], zz_f2 k4)]) zk_m_fitsDay 0 true 0 1 400 true (zz_sk zk_m_fitsDay 134) [(0, 42, 1), (1, 0, v1), (2, 0, v2)] [] σ := rfl
theorem zo_m_fitsDay_134 (k4 : Int → Int → zz_S → zz_R) (hk4 : zz_okb zM_m_fitsDay 4 [(0, 42, true), (1, 0, false), (2, 0, false)] (zz_f2 k4)) : zz_okb zM_m_fitsDay 134 [(0, 42, true), (1, 0, false), (2, 0, false)] (zz_f2 (m_fitsDay_134 k4)) :=
  fun vs σ r τ h => by
    obtain ⟨v1, v2, rfl, h⟩ := zz_f2_ok h
    exact zz_from zc_m_fitsDay zz_oc0 (zz_olc hk4 zz_ol0) ((ze_m_fitsDay_134 k4 v1 v2 σ).symm.trans h)
noncomputable def m_fitsDay_4 : Nat → Int → Int → zz_S → zz_R
  | 0, _, _, _ => none
  | n + 1, v1, v2, σ => (if zz_b σ 64 1 v1 then (if v2 < (zz_r ((zz_r (4 * v1)) + (zz_h σ 64 1 v1))) then (if zz_b σ 66 1 v2 then (if zz_b σ 67 1 v2 then (if zz_b σ 65 1 v2 then (if (zz_h σ 65 1 v2) = 3 then (if (zz_h σ 40 1 64) = (zz_h σ 66 1 v2) then (m_fitsDay_4 n v1 (zz_r (v2 + 1)) σ) else (some (0, σ))) else (if (zz_h σ 65 1 v2) = 4 then (if (zz_h σ 66 1 v2) ≤ (zz_h σ 67 1 v2) then ((m_in (zz_h σ 40 1 64) (zz_h σ 66 1 v2) (zz_h σ 67 1 v2) σ).bind fun q1 => (if q1.1 = 0 then (some (0, q1.2)) else (m_fitsDay_4 n v1 (zz_r (v2 + 1)) q1.2))) else (if (zz_h σ 40 1 64) < (zz_h σ 66 1 v2) then (if (zz_h σ 40 1 64) ≤ (zz_h σ 67 1 v2) then (m_fitsDay_134 (m_fitsDay_4 n) v1 v2 σ) else (some (0, σ))) else (m_fitsDay_134 (m_fitsDay_4 n) v1 v2 σ))) else (if (zz_h σ 65 1 v2) = 5 then (if (zz_h σ 40 1 63) = (zz_h σ 66 1 v2) then (m_fitsDay_4 n v1 (zz_r (v2 + 1)) σ) else (some (0, σ))) else (if (zz_h σ 65 1 v2) = 6 then (if (zz_h σ 40 1 63) = (zz_h σ 40 1 65) then (m_fitsDay_4 n v1 (zz_r (v2 + 1)) σ) else (some (0, σ))) else (if (zz_h σ 65 1 v2) = 7 then (if (zz_h σ 40 1 64) = (zz_h σ 67 1 v2) then (if (zz_r ((zz_div (zz_r ((zz_h σ 40 1 63) - 1)) 7) + 1)) = (zz_h σ 66 1 v2) then (m_fitsDay_4 n v1 (zz_r (v2 + 1)) σ) else (m_fitsDay_211 (m_fitsDay_4 n) v1 v2 σ)) else (m_fitsDay_211 (m_fitsDay_4 n) v1 v2 σ)) else (if (zz_h σ 65 1 v2) = 8 then (if (zz_h σ 40 1 62) = (zz_h σ 66 1 v2) then (m_fitsDay_4 n v1 (zz_r (v2 + 1)) σ) else (some (0, σ))) else (m_fitsDay_4 n v1 (zz_r (v2 + 1)) σ))))))) else none) else none) else none) else (some (1, σ))) else none)
set_option maxRecDepth 100000 in
set_option maxHeartbeats 4000000 in
theorem ze_m_fitsDay_4 (n : Nat) (v1 v2 : Int) (σ : zz_S) : m_fitsDay_4 (n + 1) v1 v2 σ = zz_ev (zz_CE [(108, zw_m_in)]) (zz_KE [(4, [(0, 42, true), (1, 0, false), (2, 0, false)], zz_f2 (m_fitsDay_4 n)), (134, [(0, 42, true), (1, 0, false), (2, 0, false)], zz_f2 (m_fitsDay_134 (m_fitsDay_4 n))), (211, [(0, 42, true), (1, 0, false), (2, 0, false)], zz_f2 (m_fitsDay_211 (m_fitsDay_4 n)))]) zk_m_fitsDay 0 true 0 1 400 true (zz_sk zk_m_fitsDay 4) [(0, 42, 1), (1, 0, v1), (2, 0, v2)] [] σ := rfl
theorem zo_m_fitsDay_4 : ∀ n : Nat, zz_okb zM_m_fitsDay 4 [(0, 42, true), (1, 0, false), (2, 0, false)] (zz_f2 (m_fitsDay_4 n))
  | 0 => fun vs σ r τ h => by
    obtain ⟨v1, v2, rfl, h⟩ := zz_f2_ok h
    exact nomatch (show (none : zz_R) = some (r, τ) from h)
  | n + 1 => by
    have ih := zo_m_fitsDay_4 n
    exact fun vs σ r τ h => by
        obtain ⟨v1, v2, rfl, h⟩ := zz_f2_ok h
        exact zz_from zc_m_fitsDay (zz_occ zo_m_m_in zz_oc0) (zz_olc ih (zz_olc (zo_m_fitsDay_134 (m_fitsDay_4 n) ih) (zz_olc (zo_m_fitsDay_211 (m_fitsDay_4 n) ih) zz_ol0))) ((ze_m_fitsDay_4 n v1 v2 σ).symm.trans h)
noncomputable def m_fitsDay (v1 : Int) (σ : zz_S) : zz_R := (m_fitsDay_4 zz_fu v1 (zz_r (4 * v1)) σ)
set_option maxRecDepth 100000 in
set_option maxHeartbeats 4000000 in
theorem ze_m_fitsDay (v1 : Int) (σ : zz_S) : m_fitsDay v1 σ = zz_ev (zz_CE []) (zz_KE [(4, [(0, 42, true), (1, 0, false), (2, 0, false)], zz_f2 (m_fitsDay_4 zz_fu))]) zk_m_fitsDay 0 true 0 1 400 true (zz_sk zk_m_fitsDay 0) [(0, 42, 1), (1, 0, v1)] [] σ := rfl
theorem zo_m_fitsDay : zz_okb zM_m_fitsDay 0 [(0, 42, true), (1, 0, false)] (zz_f1 m_fitsDay) :=
  fun vs σ r τ h => by
    obtain ⟨v1, rfl, h⟩ := zz_f1_ok h
    exact zz_from zc_m_fitsDay zz_oc0 (zz_olc (zo_m_fitsDay_4 zz_fu) zz_ol0) ((ze_m_fitsDay v1 σ).symm.trans h)
noncomputable def zw_m_fitsDay : List Int → zz_S → zz_R := zz_f2 fun a0 a1 σ => if a0 = 1 then m_fitsDay a1 σ else none
theorem zo_m_m_fitsDay : zz_okm zz_inf 117 zw_m_fitsDay := fun vs σ r τ h => by
  obtain ⟨a0, a1, rfl, h⟩ := zz_f2_ok h
  obtain ⟨e, h⟩ := zz_it h
  subst e
  exact zz_meth zi_m_fitsDay zy_m_fitsDay (zo_m_fitsDay [a1] σ r τ h)
def zk_m_fitsMinute : List zz_E := [(0, false, .iconst 4, 1, 0, (0, 0, 0, 0), 0, []),
  (1, false, .iload_n 1, 1, 0, (0, 0, 0, 0), 0, []),
  (2, false, .imul, 1, 0, (0, 0, 0, 0), 0, []),
  (3, false, .istore_n 3, 1, 0, (0, 0, 0, 0), 0, []),
  (4, true, .iload_n 3, 1, 0, (0, 0, 0, 0), 0, []),
  (5, false, .iconst 4, 1, 0, (0, 0, 0, 0), 0, []),
  (6, false, .iload_n 1, 1, 0, (0, 0, 0, 0), 0, []),
  (7, false, .imul, 1, 0, (0, 0, 0, 0), 0, []),
  (8, false, .aload_n 0, 1, 0, (0, 0, 0, 0), 0, []),
  (9, false, .getfield 87, 3, 824, (40, 30, 66, 1), 0, []),
  (12, false, .iload_n 1, 1, 0, (0, 0, 0, 0), 0, []),
  (13, false, .iaload, 1, 0, (64, 0, 0, 0), 0, []),
  (14, false, .iadd, 1, 0, (0, 0, 0, 0), 0, []),
  (15, false, .if_icmp .ge 120, 3, 0, (135, 0, 0, 0), 0, []),
  (18, false, .iconst 1, 1, 0, (0, 0, 0, 0), 0, []),
  (19, false, .istore 4, 2, 0, (0, 0, 0, 0), 0, []),
  (21, false, .aload_n 0, 1, 0, (0, 0, 0, 0), 0, []),
  (22, false, .getfield 90, 3, 825, (40, 31, 67, 1), 0, []),
  (25, false, .iload_n 3, 1, 0, (0, 0, 0, 0), 0, []),
  (26, false, .iaload, 1, 0, (65, 0, 0, 0), 0, []),
  (27, false, .tableswitch 95 0 2 #[25, 48, 71], 25, 0, (122, 0, 0, 0), 0, [52, 75, 98]),
  (52, false, .iload_n 2, 1, 0, (0, 0, 0, 0), 0, []),
  (53, false, .bipush 60, 2, 0, (0, 0, 0, 0), 0, []),
  (55, false, .irem, 1, 0, (0, 0, 0, 0), 0, []),
  (56, false, .aload_n 0, 1, 0, (0, 0, 0, 0), 0, []),
  (57, false, .getfield 93, 3, 826, (40, 32, 68, 1), 0, []),
  (60, false, .iload_n 3, 1, 0, (0, 0, 0, 0), 0, []),
  (61, false, .iaload, 1, 0, (66, 0, 0, 0), 0, []),
  (62, false, .if_icmp .ne 7, 3, 0, (69, 0, 0, 0), 0, []),
  (65, false, .iconst 1, 1, 0, (0, 0, 0, 0), 0, []),
  (66, false, .goto 4, 3, 0, (70, 0, 0, 0), 0, []),
  (69, false, .iconst 0, 1, 0, (0, 0, 0, 0), 0, []),
  (70, false, .istore 4, 2, 0, (0, 0, 0, 0), 0, []),
  (72, false, .goto 50, 3, 0, (122, 0, 0, 0), 0, []),
  (75, false, .iload_n 2, 1, 0, (0, 0, 0, 0), 0, []),
  (76, false, .bipush 60, 2, 0, (0, 0, 0, 0), 0, []),
  (78, false, .idiv, 1, 0, (0, 0, 0, 0), 0, []),
  (79, false, .aload_n 0, 1, 0, (0, 0, 0, 0), 0, []),
  (80, false, .getfield 93, 3, 826, (40, 32, 68, 1), 0, []),
  (83, false, .iload_n 3, 1, 0, (0, 0, 0, 0), 0, []),
  (84, false, .iaload, 1, 0, (66, 0, 0, 0), 0, []),
  (85, false, .if_icmp .ne 7, 3, 0, (92, 0, 0, 0), 0, []),
  (88, false, .iconst 1, 1, 0, (0, 0, 0, 0), 0, []),
  (89, false, .goto 4, 3, 0, (93, 0, 0, 0), 0, []),
  (92, false, .iconst 0, 1, 0, (0, 0, 0, 0), 0, []),
  (93, false, .istore 4, 2, 0, (0, 0, 0, 0), 0, []),
  (95, false, .goto 27, 3, 0, (122, 0, 0, 0), 0, []),
  (98, false, .iload_n 2, 1, 0, (0, 0, 0, 0), 0, []),
  (99, false, .bipush 60, 2, 0, (0, 0, 0, 0), 0, []),
  (101, false, .idiv, 1, 0, (0, 0, 0, 0), 0, []),
  (102, false, .aload_n 0, 1, 0, (0, 0, 0, 0), 0, []),
  (103, false, .getfield 93, 3, 826, (40, 32, 68, 1), 0, []),
  (106, false, .iload_n 3, 1, 0, (0, 0, 0, 0), 0, []),
  (107, false, .iaload, 1, 0, (66, 0, 0, 0), 0, []),
  (108, false, .aload_n 0, 1, 0, (0, 0, 0, 0), 0, []),
  (109, false, .getfield 96, 3, 827, (40, 33, 69, 1), 0, []),
  (112, false, .iload_n 3, 1, 0, (0, 0, 0, 0), 0, []),
  (113, false, .iaload, 1, 0, (67, 0, 0, 0), 0, []),
  (114, false, .invokestatic 174, 3, 1021, (108, 3, 0, 0), 0, [0, 0, 0]),
  (117, false, .istore 4, 2, 0, (0, 0, 0, 0), 0, []),
  (119, false, .goto 3, 3, 0, (122, 0, 0, 0), 0, []),
  (122, false, .iload 4, 2, 0, (0, 0, 0, 0), 0, []),
  (124, false, .ifCond .ne 5, 3, 0, (129, 0, 0, 0), 0, []),
  (127, false, .iconst 0, 1, 0, (0, 0, 0, 0), 0, []),
  (128, false, .ireturn, 1, 0, (0, 0, 0, 0), 0, []),
  (129, false, .iinc 3 1, 3, 0, (0, 0, 0, 0), 0, []),
  (132, false, .goto (-128), 3, 0, (4, 0, 0, 0), 0, []),
  (135, false, .iconst 1, 1, 0, (0, 0, 0, 0), 0, []),
  (136, false, .ireturn, 1, 0, (0, 0, 0, 0), 0, [])]
theorem zc_m_fitsMinute : zk_m_fitsMinute.all (zz_ck zz_inf zM_m_fitsMinute) = true ∧ zz_ch zk_m_fitsMinute = true := ⟨by decide +kernel, by decide +kernel⟩
noncomputable def m_fitsMinute_4 : Nat → Int → Int → Int → zz_S → zz_R
  | 0, _, _, _, _ => none
  | n + 1, v1, v2, v3, σ => (if zz_b σ 64 1 v1 then (if v3 < (zz_r ((zz_r (4 * v1)) + (zz_h σ 64 1 v1))) then (if zz_b σ 65 1 v3 then (if (zz_h σ 65 1 v3) = 0 then (if zz_b σ 66 1 v3 then (if (zz_rem v2 60) = (zz_h σ 66 1 v3) then (m_fitsMinute_4 n v1 v2 (zz_r (v3 + 1)) σ) else (some (0, σ))) else none) else (if (zz_h σ 65 1 v3) = 1 then (if zz_b σ 66 1 v3 then (if (zz_div v2 60) = (zz_h σ 66 1 v3) then (m_fitsMinute_4 n v1 v2 (zz_r (v3 + 1)) σ) else (some (0, σ))) else none) else (if (zz_h σ 65 1 v3) = 2 then (if zz_b σ 66 1 v3 then (if zz_b σ 67 1 v3 then ((m_in (zz_div v2 60) (zz_h σ 66 1 v3) (zz_h σ 67 1 v3) σ).bind fun q1 => (if q1.1 = 0 then (some (0, q1.2)) else (m_fitsMinute_4 n v1 v2 (zz_r (v3 + 1)) q1.2))) else none) else none) else (m_fitsMinute_4 n v1 v2 (zz_r (v3 + 1)) σ)))) else none) else (some (1, σ))) else none)
set_option maxRecDepth 100000 in
set_option maxHeartbeats 4000000 in
theorem ze_m_fitsMinute_4 (n : Nat) (v1 v2 v3 : Int) (σ : zz_S) : m_fitsMinute_4 (n + 1) v1 v2 v3 σ = zz_ev (zz_CE [(108, zw_m_in)]) (zz_KE [(4, [(0, 42, true), (1, 0, false), (2, 0, false), (3, 0, false)], zz_f3 (m_fitsMinute_4 n))]) zk_m_fitsMinute 0 true 0 1 400 true (zz_sk zk_m_fitsMinute 4) [(0, 42, 1), (1, 0, v1), (2, 0, v2), (3, 0, v3)] [] σ := rfl
theorem zo_m_fitsMinute_4 : ∀ n : Nat, zz_okb zM_m_fitsMinute 4 [(0, 42, true), (1, 0, false), (2, 0, false), (3, 0, false)] (zz_f3 (m_fitsMinute_4 n))
  | 0 => fun vs σ r τ h => by
    obtain ⟨v1, v2, v3, rfl, h⟩ := zz_f3_ok h
    exact nomatch (show (none : zz_R) = some (r, τ) from h)
  | n + 1 => by
    have ih := zo_m_fitsMinute_4 n
    exact fun vs σ r τ h => by
        obtain ⟨v1, v2, v3, rfl, h⟩ := zz_f3_ok h
        exact zz_from zc_m_fitsMinute (zz_occ zo_m_m_in zz_oc0) (zz_olc ih zz_ol0) ((ze_m_fitsMinute_4 n v1 v2 v3 σ).symm.trans h)
noncomputable def m_fitsMinute (v1 v2 : Int) (σ : zz_S) : zz_R := (m_fitsMinute_4 zz_fu v1 v2 (zz_r (4 * v1)) σ)
set_option maxRecDepth 100000 in
set_option maxHeartbeats 4000000 in
theorem ze_m_fitsMinute (v1 v2 : Int) (σ : zz_S) : m_fitsMinute v1 v2 σ = zz_ev (zz_CE []) (zz_KE [(4, [(0, 42, true), (1, 0, false), (2, 0, false), (3, 0, false)], zz_f3 (m_fitsMinute_4 zz_fu))]) zk_m_fitsMinute 0 true 0 1 400 true (zz_sk zk_m_fitsMinute 0) [(0, 42, 1), (1, 0, v1), (2, 0, v2)] [] σ := rfl
theorem zo_m_fitsMinute : zz_okb zM_m_fitsMinute 0 [(0, 42, true), (1, 0, false), (2, 0, false)] (zz_f2 m_fitsMinute) :=
  fun vs σ r τ h => by
    obtain ⟨v1, v2, rfl, h⟩ := zz_f2_ok h
    exact zz_from zc_m_fitsMinute zz_oc0 (zz_olc (zo_m_fitsMinute_4 zz_fu) zz_ol0) ((ze_m_fitsMinute v1 v2 σ).symm.trans h)
noncomputable def zw_m_fitsMinute : List Int → zz_S → zz_R := zz_f3 fun a0 a1 a2 σ => if a0 = 1 then m_fitsMinute a1 a2 σ else none
theorem zo_m_m_fitsMinute : zz_okm zz_inf 118 zw_m_fitsMinute := fun vs σ r τ h => by
  obtain ⟨a0, a1, a2, rfl, h⟩ := zz_f3_ok h
  obtain ⟨e, h⟩ := zz_it h
  subst e
  exact zz_meth zi_m_fitsMinute zy_m_fitsMinute (zo_m_fitsMinute [a1, a2] σ r τ h)
def zk_m_fits : List zz_E := [(0, false, .aload_n 0, 1, 0, (0, 0, 0, 0), 0, []),
  (1, false, .iload_n 1, 1, 0, (0, 0, 0, 0), 0, []),
  (2, false, .iload_n 2, 1, 0, (0, 0, 0, 0), 0, []),
  (3, false, .sipush 1440, 3, 0, (0, 0, 0, 0), 0, []),
  (6, false, .irem, 1, 0, (0, 0, 0, 0), 0, []),
  (7, false, .invokevirtual 197, 3, 1072, (118, 3, 0, 0), 0, [0, 0, 42]),
  (10, false, .ifCond .ne 5, 3, 0, (15, 0, 0, 0), 0, []),
  (13, false, .iconst 0, 1, 0, (0, 0, 0, 0), 0, []),
  (14, false, .ireturn, 1, 0, (0, 0, 0, 0), 0, []),
  (15, false, .aload_n 0, 1, 0, (0, 0, 0, 0), 0, []),
  (16, false, .iload_n 2, 1, 0, (0, 0, 0, 0), 0, []),
  (17, false, .sipush 1440, 3, 0, (0, 0, 0, 0), 0, []),
  (20, false, .idiv, 1, 0, (0, 0, 0, 0), 0, []),
  (21, false, .invokevirtual 201, 3, 1076, (116, 2, 999, 0), 0, [0, 42]),
  (24, false, .aload_n 0, 1, 0, (0, 0, 0, 0), 0, []),
  (25, false, .iload_n 1, 1, 0, (0, 0, 0, 0), 0, []),
  (26, false, .invokevirtual 205, 3, 1083, (117, 2, 0, 0), 0, [0, 42]),
  (29, false, .ireturn, 1, 0, (0, 0, 0, 0), 0, [])]
theorem zc_m_fits : zk_m_fits.all (zz_ck zz_inf zM_m_fits) = true ∧ zz_ch zk_m_fits = true := ⟨by decide +kernel, by decide +kernel⟩
noncomputable def m_fits (v1 v2 : Int) (σ : zz_S) : zz_R := ((m_fitsMinute v1 (zz_rem v2 1440) σ).bind fun q1 => (if q1.1 = 0 then (some (0, q1.2)) else ((m_look (zz_div v2 1440) q1.2).bind fun q2 => ((m_fitsDay v1 q2.2).bind fun q3 => (if zz_o q3.1 then (some (q3.1, q3.2)) else none)))))
set_option maxRecDepth 100000 in
set_option maxHeartbeats 4000000 in
theorem ze_m_fits (v1 v2 : Int) (σ : zz_S) : m_fits v1 v2 σ = zz_ev (zz_CE [(116, zw_m_look), (117, zw_m_fitsDay), (118, zw_m_fitsMinute)]) (zz_KE []) zk_m_fits 0 true 0 1 400 true (zz_sk zk_m_fits 0) [(0, 42, 1), (1, 0, v1), (2, 0, v2)] [] σ := rfl
theorem zo_m_fits : zz_okb zM_m_fits 0 [(0, 42, true), (1, 0, false), (2, 0, false)] (zz_f2 m_fits) :=
  fun vs σ r τ h => by
    obtain ⟨v1, v2, rfl, h⟩ := zz_f2_ok h
    exact zz_from zc_m_fits (zz_occ zo_m_m_look (zz_occ zo_m_m_fitsDay (zz_occ zo_m_m_fitsMinute zz_oc0))) zz_ol0 ((ze_m_fits v1 v2 σ).symm.trans h)
noncomputable def zw_m_fits : List Int → zz_S → zz_R := zz_f3 fun a0 a1 a2 σ => if a0 = 1 then m_fits a1 a2 σ else none
theorem zo_m_m_fits : zz_okm zz_inf 119 zw_m_fits := fun vs σ r τ h => by
  obtain ⟨a0, a1, a2, rfl, h⟩ := zz_f3_ok h
  obtain ⟨e, h⟩ := zz_it h
  subst e
  exact zz_meth zi_m_fits zy_m_fits (zo_m_fits [a1, a2] σ r τ h)
def zk_m_hasMinute : List zz_E := [(0, false, .iconst 0, 1, 0, (0, 0, 0, 0), 0, []),
  (1, false, .istore_n 2, 1, 0, (0, 0, 0, 0), 0, []),
  (2, true, .iload_n 2, 1, 0, (0, 0, 0, 0), 0, []),
  (3, false, .sipush 1440, 3, 0, (0, 0, 0, 0), 0, []),
  (6, false, .if_icmp .ge 20, 3, 0, (26, 0, 0, 0), 0, []),
  (9, false, .aload_n 0, 1, 0, (0, 0, 0, 0), 0, []),
  (10, false, .iload_n 1, 1, 0, (0, 0, 0, 0), 0, []),
  (11, false, .iload_n 2, 1, 0, (0, 0, 0, 0), 0, []),
  (12, false, .invokevirtual 197, 3, 1072, (118, 3, 0, 0), 0, [0, 0, 42]),
  (15, false, .ifCond .eq 5, 3, 0, (20, 0, 0, 0), 0, []),
  (18, false, .iconst 1, 1, 0, (0, 0, 0, 0), 0, []),
  (19, false, .ireturn, 1, 0, (0, 0, 0, 0), 0, []),
  (20, false, .iinc 2 1, 3, 0, (0, 0, 0, 0), 0, []),
  (23, false, .goto (-21), 3, 0, (2, 0, 0, 0), 0, []),
  (26, false, .iconst 0, 1, 0, (0, 0, 0, 0), 0, []),
  (27, false, .ireturn, 1, 0, (0, 0, 0, 0), 0, [])]
theorem zc_m_hasMinute : zk_m_hasMinute.all (zz_ck zz_inf zM_m_hasMinute) = true ∧ zz_ch zk_m_hasMinute = true := ⟨by decide +kernel, by decide +kernel⟩
noncomputable def m_hasMinute_2 : Nat → Int → Int → zz_S → zz_R
  | 0, _, _, _ => none
  | n + 1, v1, v2, σ => (if v2 < 1440 then ((m_fitsMinute v1 v2 σ).bind fun q1 => (if q1.1 = 0 then (m_hasMinute_2 n v1 (zz_r (v2 + 1)) q1.2) else (some (1, q1.2)))) else (some (0, σ)))
set_option maxRecDepth 100000 in
set_option maxHeartbeats 4000000 in
theorem ze_m_hasMinute_2 (n : Nat) (v1 v2 : Int) (σ : zz_S) : m_hasMinute_2 (n + 1) v1 v2 σ = zz_ev (zz_CE [(118, zw_m_fitsMinute)]) (zz_KE [(2, [(0, 42, true), (1, 0, false), (2, 0, false)], zz_f2 (m_hasMinute_2 n))]) zk_m_hasMinute 0 true 0 1 400 true (zz_sk zk_m_hasMinute 2) [(0, 42, 1), (1, 0, v1), (2, 0, v2)] [] σ := rfl
theorem zo_m_hasMinute_2 : ∀ n : Nat, zz_okb zM_m_hasMinute 2 [(0, 42, true), (1, 0, false), (2, 0, false)] (zz_f2 (m_hasMinute_2 n))
  | 0 => fun vs σ r τ h => by
    obtain ⟨v1, v2, rfl, h⟩ := zz_f2_ok h
    exact nomatch (show (none : zz_R) = some (r, τ) from h)
  | n + 1 => by
    have ih := zo_m_hasMinute_2 n
    exact fun vs σ r τ h => by
        obtain ⟨v1, v2, rfl, h⟩ := zz_f2_ok h
        exact zz_from zc_m_hasMinute (zz_occ zo_m_m_fitsMinute zz_oc0) (zz_olc ih zz_ol0) ((ze_m_hasMinute_2 n v1 v2 σ).symm.trans h)
noncomputable def m_hasMinute (v1 : Int) (σ : zz_S) : zz_R := (m_hasMinute_2 zz_fu v1 0 σ)
set_option maxRecDepth 100000 in
set_option maxHeartbeats 4000000 in
theorem ze_m_hasMinute (v1 : Int) (σ : zz_S) : m_hasMinute v1 σ = zz_ev (zz_CE []) (zz_KE [(2, [(0, 42, true), (1, 0, false), (2, 0, false)], zz_f2 (m_hasMinute_2 zz_fu))]) zk_m_hasMinute 0 true 0 1 400 true (zz_sk zk_m_hasMinute 0) [(0, 42, 1), (1, 0, v1)] [] σ := rfl
theorem zo_m_hasMinute : zz_okb zM_m_hasMinute 0 [(0, 42, true), (1, 0, false)] (zz_f1 m_hasMinute) :=
  fun vs σ r τ h => by
    obtain ⟨v1, rfl, h⟩ := zz_f1_ok h
    exact zz_from zc_m_hasMinute zz_oc0 (zz_olc (zo_m_hasMinute_2 zz_fu) zz_ol0) ((ze_m_hasMinute v1 σ).symm.trans h)
noncomputable def zw_m_hasMinute : List Int → zz_S → zz_R := zz_f2 fun a0 a1 σ => if a0 = 1 then m_hasMinute a1 σ else none
theorem zo_m_m_hasMinute : zz_okm zz_inf 120 zw_m_hasMinute := fun vs σ r τ h => by
  obtain ⟨a0, a1, rfl, h⟩ := zz_f2_ok h
  obtain ⟨e, h⟩ := zz_it h
  subst e
  exact zz_meth zi_m_hasMinute zy_m_hasMinute (zo_m_hasMinute [a1] σ r τ h)
def zk_m_calendarFrom : List zz_E := [(0, false, .iload_n 2, 1, 0, (0, 0, 0, 0), 0, []),
  (1, false, .aload_n 0, 1, 0, (0, 0, 0, 0), 0, []),
  (2, false, .getfield 214, 3, 795, (40, 1, 0, 0), 0, []),
  (5, false, .iadd, 1, 0, (0, 0, 0, 0), 0, []),
  (6, false, .istore_n 3, 1, 0, (0, 0, 0, 0), 0, []),
  (7, false, .iload_n 3, 1, 0, (0, 0, 0, 0), 0, []),
  (8, false, .aload_n 0, 1, 0, (0, 0, 0, 0), 0, []),
  (9, false, .getfield 7, 3, 796, (40, 2, 0, 0), 0, []),
  (12, false, .if_icmp .gt 10, 3, 0, (22, 0, 0, 0), 0, []),
  (15, false, .aload_n 0, 1, 0, (0, 0, 0, 0), 0, []),
  (16, false, .getfield 7, 3, 796, (40, 2, 0, 0), 0, []),
  (19, false, .iconst 1, 1, 0, (0, 0, 0, 0), 0, []),
  (20, false, .iadd, 1, 0, (0, 0, 0, 0), 0, []),
  (21, false, .istore_n 3, 1, 0, (0, 0, 0, 0), 0, []),
  (22, true, .ldc 209, 2, 1000, (0, 0, 0, 0), 400000, []),
  (24, false, .aload_n 0, 1, 0, (0, 0, 0, 0), 0, []),
  (25, false, .getfield 214, 3, 795, (40, 1, 0, 0), 0, []),
  (28, false, .iadd, 1, 0, (0, 0, 0, 0), 0, []),
  (29, false, .istore 4, 2, 0, (0, 0, 0, 0), 0, []),
  (31, false, .iload_n 3, 1, 0, (0, 0, 0, 0), 0, []),
  (32, false, .iload 4, 2, 0, (0, 0, 0, 0), 0, []),
  (34, false, .if_icmp .gt 11, 3, 0, (45, 0, 0, 0), 0, []),
  (37, false, .aload_n 0, 1, 0, (0, 0, 0, 0), 0, []),
  (38, false, .iload_n 1, 1, 0, (0, 0, 0, 0), 0, []),
  (39, false, .invokevirtual 217, 3, 1199, (120, 2, 0, 0), 0, [0, 42]),
  (42, false, .ifCond .ne 5, 3, 0, (47, 0, 0, 0), 0, []),
  (45, false, .iconst (-1), 1, 0, (0, 0, 0, 0), 0, []),
  (46, false, .ireturn, 1, 0, (0, 0, 0, 0), 0, []),
  (47, true, .iload_n 3, 1, 0, (0, 0, 0, 0), 0, []),
  (48, false, .iload 4, 2, 0, (0, 0, 0, 0), 0, []),
  (50, false, .if_icmp .gt 79, 3, 0, (129, 0, 0, 0), 0, []),
  (53, false, .iload_n 3, 1, 0, (0, 0, 0, 0), 0, []),
  (54, false, .sipush 1440, 3, 0, (0, 0, 0, 0), 0, []),
  (57, false, .irem, 1, 0, (0, 0, 0, 0), 0, []),
  (58, false, .istore 5, 2, 0, (0, 0, 0, 0), 0, []),
  (60, false, .aload_n 0, 1, 0, (0, 0, 0, 0), 0, []),
  (61, false, .iload_n 3, 1, 0, (0, 0, 0, 0), 0, []),
  (62, false, .sipush 1440, 3, 0, (0, 0, 0, 0), 0, []),
  (65, false, .idiv, 1, 0, (0, 0, 0, 0), 0, []),
  (66, false, .invokevirtual 201, 3, 1076, (116, 2, 999, 0), 0, [0, 42]),
  (69, false, .aload_n 0, 1, 0, (0, 0, 0, 0), 0, []),
  (70, false, .iload_n 1, 1, 0, (0, 0, 0, 0), 0, []),
  (71, false, .invokevirtual 205, 3, 1083, (117, 2, 0, 0), 0, [0, 42]),
  (74, false, .ifCond .eq 43, 3, 0, (117, 0, 0, 0), 0, []),
  (77, true, .iload 5, 2, 0, (0, 0, 0, 0), 0, []),
  (79, false, .sipush 1440, 3, 0, (0, 0, 0, 0), 0, []),
  (82, false, .if_icmp .ge 44, 3, 0, (126, 0, 0, 0), 0, []),
  (85, false, .iload_n 3, 1, 0, (0, 0, 0, 0), 0, []),
  (86, false, .iload 4, 2, 0, (0, 0, 0, 0), 0, []),
  (88, false, .if_icmp .gt 38, 3, 0, (126, 0, 0, 0), 0, []),
  (91, false, .aload_n 0, 1, 0, (0, 0, 0, 0), 0, []),
  (92, false, .iload_n 1, 1, 0, (0, 0, 0, 0), 0, []),
  (93, false, .iload 5, 2, 0, (0, 0, 0, 0), 0, []),
  (95, false, .invokevirtual 197, 3, 1072, (118, 3, 0, 0), 0, [0, 0, 42]),
  (98, false, .ifCond .eq 10, 3, 0, (108, 0, 0, 0), 0, []),
  (101, false, .iload_n 3, 1, 0, (0, 0, 0, 0), 0, []),
  (102, false, .aload_n 0, 1, 0, (0, 0, 0, 0), 0, []),
  (103, false, .getfield 214, 3, 795, (40, 1, 0, 0), 0, []),
  (106, false, .isub, 1, 0, (0, 0, 0, 0), 0, []),
  (107, false, .ireturn, 1, 0, (0, 0, 0, 0), 0, []),
  (108, false, .iinc 5 1, 3, 0, (0, 0, 0, 0), 0, []),
  (111, false, .iinc 3 1, 3, 0, (0, 0, 0, 0), 0, []),
  (114, false, .goto (-37), 3, 0, (77, 0, 0, 0), 0, []),
  (117, false, .iload_n 3, 1, 0, (0, 0, 0, 0), 0, []),
  (118, false, .sipush 1440, 3, 0, (0, 0, 0, 0), 0, []),
  (121, false, .iload 5, 2, 0, (0, 0, 0, 0), 0, []),
  (123, false, .isub, 1, 0, (0, 0, 0, 0), 0, []),
  (124, false, .iadd, 1, 0, (0, 0, 0, 0), 0, []),
  (125, false, .istore_n 3, 1, 0, (0, 0, 0, 0), 0, []),
  (126, false, .goto (-79), 3, 0, (47, 0, 0, 0), 0, []),
  (129, false, .iconst (-1), 1, 0, (0, 0, 0, 0), 0, []),
  (130, false, .ireturn, 1, 0, (0, 0, 0, 0), 0, [])]
theorem zc_m_calendarFrom : zk_m_calendarFrom.all (zz_ck zz_inf zM_m_calendarFrom) = true ∧ zz_ch zk_m_calendarFrom = true := ⟨by decide +kernel, by decide +kernel⟩
noncomputable def m_calendarFrom_77 (k47 : Int → Int → Int → zz_S → zz_R) : Nat → Int → Int → Int → Int → zz_S → zz_R
  | 0, _, _, _, _, _ => none
  | n + 1, v1, v3, v4, v5, σ => (if v5 < 1440 then (if v3 ≤ v4 then ((m_fitsMinute v1 v5 σ).bind fun q1 => (if q1.1 = 0 then (m_calendarFrom_77 k47 n v1 (zz_r (v3 + 1)) v4 (zz_r (v5 + 1)) q1.2) else (some ((zz_r (v3 - (zz_h q1.2 40 1 1))), q1.2)))) else (k47 v1 v3 v4 σ)) else (k47 v1 v3 v4 σ))
set_option maxRecDepth 100000 in
set_option maxHeartbeats 4000000 in
theorem ze_m_calendarFrom_77 (k47 : Int → Int → Int → zz_S → zz_R) (n : Nat) (v1 v3 v4 v5 : Int) (σ : zz_S) : m_calendarFrom_77 k47 (n + 1) v1 v3 v4 v5 σ = zz_ev (zz_CE [(118, zw_m_fitsMinute)]) (zz_KE [(47, [(0, 42, true), (1, 0, false), (3, 0, false), (4, 0, false)], zz_f3 k47), (77, [(0, 42, true), (1, 0, false), (3, 0, false), (4, 0, false), (5, 0, false)], zz_f4 (m_calendarFrom_77 k47 n))]) zk_m_calendarFrom 0 false 0 1 400 true (zz_sk zk_m_calendarFrom 77) [(0, 42, 1), (1, 0, v1), (3, 0, v3), (4, 0, v4), (5, 0, v5)] [] σ := rfl
theorem zo_m_calendarFrom_77 (k47 : Int → Int → Int → zz_S → zz_R) (hk47 : zz_okb zM_m_calendarFrom 47 [(0, 42, true), (1, 0, false), (3, 0, false), (4, 0, false)] (zz_f3 k47)) : ∀ n : Nat, zz_okb zM_m_calendarFrom 77 [(0, 42, true), (1, 0, false), (3, 0, false), (4, 0, false), (5, 0, false)] (zz_f4 (m_calendarFrom_77 k47 n))
  | 0 => fun vs σ r τ h => by
    obtain ⟨v1, v3, v4, v5, rfl, h⟩ := zz_f4_ok h
    exact nomatch (show (none : zz_R) = some (r, τ) from h)
  | n + 1 => by
    have ih := zo_m_calendarFrom_77 k47 hk47 n
    exact fun vs σ r τ h => by
        obtain ⟨v1, v3, v4, v5, rfl, h⟩ := zz_f4_ok h
        exact zz_from zc_m_calendarFrom (zz_occ zo_m_m_fitsMinute zz_oc0) (zz_olc hk47 (zz_olc ih zz_ol0)) ((ze_m_calendarFrom_77 k47 n v1 v3 v4 v5 σ).symm.trans h)
noncomputable def m_calendarFrom_47 : Nat → Int → Int → Int → zz_S → zz_R
  | 0, _, _, _, _ => none
  | n + 1, v1, v3, v4, σ => (if v3 ≤ v4 then ((m_look (zz_div v3 1440) σ).bind fun q1 => ((m_fitsDay v1 q1.2).bind fun q2 => (if q2.1 = 0 then (m_calendarFrom_47 n v1 (zz_r (v3 + (zz_r (1440 - (zz_rem v3 1440))))) v4 q2.2) else (m_calendarFrom_77 (m_calendarFrom_47 n) zz_fu v1 v3 v4 (zz_rem v3 1440) q2.2)))) else (some ((-1), σ)))
set_option maxRecDepth 100000 in
set_option maxHeartbeats 4000000 in
theorem ze_m_calendarFrom_47 (n : Nat) (v1 v3 v4 : Int) (σ : zz_S) : m_calendarFrom_47 (n + 1) v1 v3 v4 σ = zz_ev (zz_CE [(116, zw_m_look), (117, zw_m_fitsDay)]) (zz_KE [(47, [(0, 42, true), (1, 0, false), (3, 0, false), (4, 0, false)], zz_f3 (m_calendarFrom_47 n)), (77, [(0, 42, true), (1, 0, false), (3, 0, false), (4, 0, false), (5, 0, false)], zz_f4 (m_calendarFrom_77 (m_calendarFrom_47 n) zz_fu))]) zk_m_calendarFrom 0 false 0 1 400 true (zz_sk zk_m_calendarFrom 47) [(0, 42, 1), (1, 0, v1), (3, 0, v3), (4, 0, v4)] [] σ := rfl
theorem zo_m_calendarFrom_47 : ∀ n : Nat, zz_okb zM_m_calendarFrom 47 [(0, 42, true), (1, 0, false), (3, 0, false), (4, 0, false)] (zz_f3 (m_calendarFrom_47 n))
  | 0 => fun vs σ r τ h => by
    obtain ⟨v1, v3, v4, rfl, h⟩ := zz_f3_ok h
    exact nomatch (show (none : zz_R) = some (r, τ) from h)
  | n + 1 => by
    have ih := zo_m_calendarFrom_47 n
    exact fun vs σ r τ h => by
        obtain ⟨v1, v3, v4, rfl, h⟩ := zz_f3_ok h
        exact zz_from zc_m_calendarFrom (zz_occ zo_m_m_look (zz_occ zo_m_m_fitsDay zz_oc0)) (zz_olc ih (zz_olc (zo_m_calendarFrom_77 (m_calendarFrom_47 n) ih zz_fu) zz_ol0)) ((ze_m_calendarFrom_47 n v1 v3 v4 σ).symm.trans h)
noncomputable def m_calendarFrom_22 (v1 v3 : Int) (σ : zz_S) : zz_R := (if v3 ≤ (zz_r (400000 + (zz_h σ 40 1 1))) then ((m_hasMinute v1 σ).bind fun q1 => (if q1.1 = 0 then (some ((-1), q1.2)) else (m_calendarFrom_47 zz_fu v1 v3 (zz_r (400000 + (zz_h σ 40 1 1))) q1.2))) else (some ((-1), σ)))
set_option maxRecDepth 100000 in
set_option maxHeartbeats 4000000 in
theorem ze_m_calendarFrom_22 (v1 v3 : Int) (σ : zz_S) : m_calendarFrom_22 v1 v3 σ = zz_ev (zz_CE [(120, zw_m_hasMinute)]) (zz_KE [(47, [(0, 42, true), (1, 0, false), (3, 0, false), (4, 0, false)], zz_f3 (m_calendarFrom_47 zz_fu))]) zk_m_calendarFrom 0 false 0 1 400 true (zz_sk zk_m_calendarFrom 22) [(0, 42, 1), (1, 0, v1), (3, 0, v3)] [] σ := rfl
theorem zo_m_calendarFrom_22 : zz_okb zM_m_calendarFrom 22 [(0, 42, true), (1, 0, false), (3, 0, false)] (zz_f2 m_calendarFrom_22) :=
  fun vs σ r τ h => by
    obtain ⟨v1, v3, rfl, h⟩ := zz_f2_ok h
    exact zz_from zc_m_calendarFrom (zz_occ zo_m_m_hasMinute zz_oc0) (zz_olc (zo_m_calendarFrom_47 zz_fu) zz_ol0) ((ze_m_calendarFrom_22 v1 v3 σ).symm.trans h)
noncomputable def m_calendarFrom (v1 v2 : Int) (σ : zz_S) : zz_R := (if (zz_r (v2 + (zz_h σ 40 1 1))) ≤ (zz_h σ 40 1 2) then (m_calendarFrom_22 v1 (zz_r ((zz_h σ 40 1 2) + 1)) σ) else (m_calendarFrom_22 v1 (zz_r (v2 + (zz_h σ 40 1 1))) σ))
set_option maxRecDepth 100000 in
set_option maxHeartbeats 4000000 in
theorem ze_m_calendarFrom (v1 v2 : Int) (σ : zz_S) : m_calendarFrom v1 v2 σ = zz_ev (zz_CE []) (zz_KE [(22, [(0, 42, true), (1, 0, false), (3, 0, false)], zz_f2 (m_calendarFrom_22))]) zk_m_calendarFrom 0 false 0 1 400 true (zz_sk zk_m_calendarFrom 0) [(0, 42, 1), (1, 0, v1), (2, 0, v2)] [] σ := rfl
theorem zo_m_calendarFrom : zz_okb zM_m_calendarFrom 0 [(0, 42, true), (1, 0, false), (2, 0, false)] (zz_f2 m_calendarFrom) :=
  fun vs σ r τ h => by
    obtain ⟨v1, v2, rfl, h⟩ := zz_f2_ok h
    exact zz_from zc_m_calendarFrom zz_oc0 (zz_olc (zo_m_calendarFrom_22) zz_ol0) ((ze_m_calendarFrom v1 v2 σ).symm.trans h)
noncomputable def zw_m_calendarFrom : List Int → zz_S → zz_R := zz_f3 fun a0 a1 a2 σ => if a0 = 1 then m_calendarFrom a1 a2 σ else none
theorem zo_m_m_calendarFrom : zz_okm zz_inf 122 zw_m_calendarFrom := fun vs σ r τ h => by
  obtain ⟨a0, a1, a2, rfl, h⟩ := zz_f3_ok h
  obtain ⟨e, h⟩ := zz_it h
  subst e
  exact zz_meth zi_m_calendarFrom zy_m_calendarFrom (zo_m_calendarFrom [a1, a2] σ r τ h)
def zk_m_dueFrom : List zz_E := [(0, false, .aload_n 0, 1, 0, (0, 0, 0, 0), 0, []),
  (1, false, .getfield 26, 3, 804, (40, 10, 46, 1), 0, []),
  (4, false, .iload_n 1, 1, 0, (0, 0, 0, 0), 0, []),
  (5, false, .iaload, 1, 0, (44, 0, 0, 0), 0, []),
  (6, false, .tableswitch 174 0 3 #[30, 62, 135, 167], 30, 0, (180, 0, 0, 0), 0, [36, 68, 141, 173]),
  (36, false, .aload_n 0, 1, 0, (0, 0, 0, 0), 0, []),
  (37, false, .getfield 29, 3, 805, (40, 11, 47, 1), 0, []),
  (40, false, .iload_n 1, 1, 0, (0, 0, 0, 0), 0, []),
  (41, false, .iaload, 1, 0, (45, 0, 0, 0), 0, []),
  (42, false, .iload_n 2, 1, 0, (0, 0, 0, 0), 0, []),
  (43, false, .if_icmp .lt 23, 3, 0, (66, 0, 0, 0), 0, []),
  (46, false, .aload_n 0, 1, 0, (0, 0, 0, 0), 0, []),
  (47, false, .getfield 29, 3, 805, (40, 11, 47, 1), 0, []),
  (50, false, .iload_n 1, 1, 0, (0, 0, 0, 0), 0, []),
  (51, false, .iaload, 1, 0, (45, 0, 0, 0), 0, []),
  (52, false, .ldc 209, 2, 1000, (0, 0, 0, 0), 400000, []),
  (54, false, .if_icmp .gt 12, 3, 0, (66, 0, 0, 0), 0, []),
  (57, false, .aload_n 0, 1, 0, (0, 0, 0, 0), 0, []),
  (58, false, .getfield 29, 3, 805, (40, 11, 47, 1), 0, []),
  (61, false, .iload_n 1, 1, 0, (0, 0, 0, 0), 0, []),
  (62, false, .iaload, 1, 0, (45, 0, 0, 0), 0, []),
  (63, false, .goto 4, 3, 0, (67, 0, 0, 0), 0, []),
  (66, false, .iconst (-1), 1, 0, (0, 0, 0, 0), 0, []),
  (67, false, .ireturn, 1, 0, (0, 0, 0, 0), 0, []),
  (68, false, .aload_n 0, 1, 0, (0, 0, 0, 0), 0, []),
  (69, false, .getfield 29, 3, 805, (40, 11, 47, 1), 0, []),
  (72, false, .iload_n 1, 1, 0, (0, 0, 0, 0), 0, []),
  (73, false, .iaload, 1, 0, (45, 0, 0, 0), 0, []),
  (74, false, .iload_n 2, 1, 0, (0, 0, 0, 0), 0, []),
  (75, false, .if_icmp .lt 10, 3, 0, (85, 0, 0, 0), 0, []),
  (78, false, .aload_n 0, 1, 0, (0, 0, 0, 0), 0, []),
  (79, false, .getfield 29, 3, 805, (40, 11, 47, 1), 0, []),
  (82, false, .iload_n 1, 1, 0, (0, 0, 0, 0), 0, []),
  (83, false, .iaload, 1, 0, (45, 0, 0, 0), 0, []),
  (84, false, .ireturn, 1, 0, (0, 0, 0, 0), 0, []),
  (85, false, .iload_n 2, 1, 0, (0, 0, 0, 0), 0, []),
  (86, false, .aload_n 0, 1, 0, (0, 0, 0, 0), 0, []),
  (87, false, .getfield 29, 3, 805, (40, 11, 47, 1), 0, []),
  (90, false, .iload_n 1, 1, 0, (0, 0, 0, 0), 0, []),
  (91, false, .iaload, 1, 0, (45, 0, 0, 0), 0, []),
  (92, false, .isub, 1, 0, (0, 0, 0, 0), 0, []),
  (93, false, .aload_n 0, 1, 0, (0, 0, 0, 0), 0, []),
  (94, false, .getfield 32, 3, 806, (40, 12, 48, 1), 0, []),
  (97, false, .iload_n 1, 1, 0, (0, 0, 0, 0), 0, []),
  (98, false, .iaload, 1, 0, (46, 0, 0, 0), 0, []),
  (99, false, .iadd, 1, 0, (0, 0, 0, 0), 0, []),
  (100, false, .iconst 1, 1, 0, (0, 0, 0, 0), 0, []),
  (101, false, .isub, 1, 0, (0, 0, 0, 0), 0, []),
  (102, false, .aload_n 0, 1, 0, (0, 0, 0, 0), 0, []),
  (103, false, .getfield 32, 3, 806, (40, 12, 48, 1), 0, []),
  (106, false, .iload_n 1, 1, 0, (0, 0, 0, 0), 0, []),
  (107, false, .iaload, 1, 0, (46, 0, 0, 0), 0, []),
  (108, false, .idiv, 1, 0, (0, 0, 0, 0), 0, []),
  (109, false, .istore_n 3, 1, 0, (0, 0, 0, 0), 0, []),
  (110, false, .aload_n 0, 1, 0, (0, 0, 0, 0), 0, []),
  (111, false, .getfield 29, 3, 805, (40, 11, 47, 1), 0, []),
  (114, false, .iload_n 1, 1, 0, (0, 0, 0, 0), 0, []),
  (115, false, .iaload, 1, 0, (45, 0, 0, 0), 0, []),
  (116, false, .iload_n 3, 1, 0, (0, 0, 0, 0), 0, []),
  (117, false, .aload_n 0, 1, 0, (0, 0, 0, 0), 0, []),
  (118, false, .getfield 32, 3, 806, (40, 12, 48, 1), 0, []),
  (121, false, .iload_n 1, 1, 0, (0, 0, 0, 0), 0, []),
  (122, false, .iaload, 1, 0, (46, 0, 0, 0), 0, []),
  (123, false, .imul, 1, 0, (0, 0, 0, 0), 0, []),
  (124, false, .iadd, 1, 0, (0, 0, 0, 0), 0, []),
  (125, false, .istore 4, 2, 0, (0, 0, 0, 0), 0, []),
  (127, false, .iload 4, 2, 0, (0, 0, 0, 0), 0, []),
  (129, false, .ldc 209, 2, 1000, (0, 0, 0, 0), 400000, []),
  (131, false, .if_icmp .gt 8, 3, 0, (139, 0, 0, 0), 0, []),
  (134, false, .iload 4, 2, 0, (0, 0, 0, 0), 0, []),
  (136, false, .goto 4, 3, 0, (140, 0, 0, 0), 0, []),
  (139, false, .iconst (-1), 1, 0, (0, 0, 0, 0), 0, []),
  (140, false, .ireturn, 1, 0, (0, 0, 0, 0), 0, []),
  (141, false, .aload_n 0, 1, 0, (0, 0, 0, 0), 0, []),
  (142, false, .getfield 65, 3, 817, (40, 23, 59, 1), 0, []),
  (145, false, .iload_n 1, 1, 0, (0, 0, 0, 0), 0, []),
  (146, false, .iaload, 1, 0, (57, 0, 0, 0), 0, []),
  (147, false, .iload_n 2, 1, 0, (0, 0, 0, 0), 0, []),
  (148, false, .if_icmp .lt 23, 3, 0, (171, 0, 0, 0), 0, []),
  (151, false, .aload_n 0, 1, 0, (0, 0, 0, 0), 0, []),
  (152, false, .getfield 65, 3, 817, (40, 23, 59, 1), 0, []),
  (155, false, .iload_n 1, 1, 0, (0, 0, 0, 0), 0, []),
  (156, false, .iaload, 1, 0, (57, 0, 0, 0), 0, []),
  (157, false, .ldc 209, 2, 1000, (0, 0, 0, 0), 400000, []),
  (159, false, .if_icmp .gt 12, 3, 0, (171, 0, 0, 0), 0, []),
  (162, false, .aload_n 0, 1, 0, (0, 0, 0, 0), 0, []),
  (163, false, .getfield 65, 3, 817, (40, 23, 59, 1), 0, []),
  (166, false, .iload_n 1, 1, 0, (0, 0, 0, 0), 0, []),
  (167, false, .iaload, 1, 0, (57, 0, 0, 0), 0, []),
  (168, false, .goto 4, 3, 0, (172, 0, 0, 0), 0, []),
  (171, false, .iconst (-1), 1, 0, (0, 0, 0, 0), 0, []),
  (172, false, .ireturn, 1, 0, (0, 0, 0, 0), 0, []),
  (173, false, .aload_n 0, 1, 0, (0, 0, 0, 0), 0, []),
  (174, false, .iload_n 1, 1, 0, (0, 0, 0, 0), 0, []),
  (175, false, .iload_n 2, 1, 0, (0, 0, 0, 0), 0, []),
  (176, false, .invokevirtual 210, 3, 1195, (122, 3, 0, 0), 0, [0, 0, 42]),
  (179, false, .ireturn, 1, 0, (0, 0, 0, 0), 0, []),
  (180, false, .iconst (-1), 1, 0, (0, 0, 0, 0), 0, []),
  (181, false, .ireturn, 1, 0, (0, 0, 0, 0), 0, [])]
theorem zc_m_dueFrom : zk_m_dueFrom.all (zz_ck zz_inf zM_m_dueFrom) = true ∧ zz_ch zk_m_dueFrom = true := ⟨by decide +kernel, by decide +kernel⟩
noncomputable def m_dueFrom (v1 v2 : Int) (σ : zz_S) : zz_R := (if zz_b σ 44 1 v1 then (if (zz_h σ 44 1 v1) = 0 then (if zz_b σ 45 1 v1 then (if (zz_h σ 45 1 v1) < v2 then (some ((-1), σ)) else (if zz_b σ 45 1 v1 then (if (zz_h σ 45 1 v1) ≤ 400000 then (if zz_b σ 45 1 v1 then (some ((zz_h σ 45 1 v1), σ)) else none) else (some ((-1), σ))) else none)) else none) else (if (zz_h σ 44 1 v1) = 1 then (if zz_b σ 45 1 v1 then (if (zz_h σ 45 1 v1) < v2 then (if zz_b σ 45 1 v1 then (if zz_b σ 46 1 v1 then (if zz_b σ 46 1 v1 then (if (zz_h σ 46 1 v1) = 0 then none else (if zz_b σ 45 1 v1 then (if zz_b σ 46 1 v1 then (if (zz_r ((zz_h σ 45 1 v1) + (zz_r ((zz_div (zz_r ((zz_r ((zz_r (v2 - (zz_h σ 45 1 v1))) + (zz_h σ 46 1 v1))) - 1)) (zz_h σ 46 1 v1)) * (zz_h σ 46 1 v1))))) ≤ 400000 then (some ((zz_r ((zz_h σ 45 1 v1) + (zz_r ((zz_div (zz_r ((zz_r ((zz_r (v2 - (zz_h σ 45 1 v1))) + (zz_h σ 46 1 v1))) - 1)) (zz_h σ 46 1 v1)) * (zz_h σ 46 1 v1))))), σ)) else (some ((-1), σ))) else none) else none)) else none) else none) else none) else (if zz_b σ 45 1 v1 then (some ((zz_h σ 45 1 v1), σ)) else none)) else none) else (if (zz_h σ 44 1 v1) = 2 then (if zz_b σ 57 1 v1 then (if (zz_h σ 57 1 v1) < v2 then (some ((-1), σ)) else (if zz_b σ 57 1 v1 then (if (zz_h σ 57 1 v1) ≤ 400000 then (if zz_b σ 57 1 v1 then (some ((zz_h σ 57 1 v1), σ)) else none) else (some ((-1), σ))) else none)) else none) else (if (zz_h σ 44 1 v1) = 3 then ((m_calendarFrom v1 v2 σ).bind fun q1 => (some (q1.1, q1.2))) else (some ((-1), σ)))))) else none)
set_option maxRecDepth 100000 in
set_option maxHeartbeats 4000000 in
theorem ze_m_dueFrom (v1 v2 : Int) (σ : zz_S) : m_dueFrom v1 v2 σ = zz_ev (zz_CE [(122, zw_m_calendarFrom)]) (zz_KE []) zk_m_dueFrom 0 false 0 1 400 true (zz_sk zk_m_dueFrom 0) [(0, 42, 1), (1, 0, v1), (2, 0, v2)] [] σ := rfl
theorem zo_m_dueFrom : zz_okb zM_m_dueFrom 0 [(0, 42, true), (1, 0, false), (2, 0, false)] (zz_f2 m_dueFrom) :=
  fun vs σ r τ h => by
    obtain ⟨v1, v2, rfl, h⟩ := zz_f2_ok h
    exact zz_from zc_m_dueFrom (zz_occ zo_m_m_calendarFrom zz_oc0) zz_ol0 ((ze_m_dueFrom v1 v2 σ).symm.trans h)
noncomputable def zw_m_dueFrom : List Int → zz_S → zz_R := zz_f3 fun a0 a1 a2 σ => if a0 = 1 then m_dueFrom a1 a2 σ else none
theorem zo_m_m_dueFrom : zz_okm zz_inf 121 zw_m_dueFrom := fun vs σ r τ h => by
  obtain ⟨a0, a1, a2, rfl, h⟩ := zz_f3_ok h
  obtain ⟨e, h⟩ := zz_it h
  subst e
  exact zz_meth zi_m_dueFrom zy_m_dueFrom (zo_m_dueFrom [a1, a2] σ r τ h)
def zk_m_books : List zz_E := [(0, false, .aload_n 0, 1, 0, (0, 0, 0, 0), 0, []),
  (1, false, .getfield 220, 3, 851, (40, 57, 0, 0), 0, []),
  (4, false, .sipush 300, 3, 0, (0, 0, 0, 0), 0, []),
  (7, false, .if_icmp .ge 33, 3, 0, (40, 0, 0, 0), 0, []),
  (10, false, .aload_n 0, 1, 0, (0, 0, 0, 0), 0, []),
  (11, false, .getfield 159, 3, 852, (40, 58, 90, 1), 0, []),
  (14, false, .aload_n 0, 1, 0, (0, 0, 0, 0), 0, []),
  (15, false, .getfield 220, 3, 851, (40, 57, 0, 0), 0, []),
  (18, false, .iload_n 1, 1, 0, (0, 0, 0, 0), 0, []),
  (19, false, .iastore, 1, 0, (88, 0, 0, 0), 0, []),
  (20, false, .aload_n 0, 1, 0, (0, 0, 0, 0), 0, []),
  (21, false, .getfield 162, 3, 853, (40, 59, 91, 1), 0, []),
  (24, false, .aload_n 0, 1, 0, (0, 0, 0, 0), 0, []),
  (25, false, .getfield 220, 3, 851, (40, 57, 0, 0), 0, []),
  (28, false, .iload_n 2, 1, 0, (0, 0, 0, 0), 0, []),
  (29, false, .iastore, 1, 0, (89, 0, 0, 0), 0, []),
  (30, false, .aload_n 0, 1, 0, (0, 0, 0, 0), 0, []),
  (31, false, .getfield 165, 3, 854, (40, 60, 92, 1), 0, []),
  (34, false, .aload_n 0, 1, 0, (0, 0, 0, 0), 0, []),
  (35, false, .getfield 220, 3, 851, (40, 57, 0, 0), 0, []),
  (38, false, .iload_n 3, 1, 0, (0, 0, 0, 0), 0, []),
  (39, false, .iastore, 1, 0, (90, 0, 0, 0), 0, []),
  (40, false, .aload_n 0, 1, 0, (0, 0, 0, 0), 0, []),
  (41, false, .dup, 1, 0, (0, 0, 0, 0), 0, []),
  (42, false, .getfield 220, 3, 851, (40, 57, 0, 0), 0, []),
  (45, false, .iconst 1, 1, 0, (0, 0, 0, 0), 0, []),
  (46, false, .iadd, 1, 0, (0, 0, 0, 0), 0, []),
  (47, false, .putfield 220, 3, 851, (40, 57, 0, 0), 0, []),
  (50, false, .return_, 1, 0, (0, 0, 0, 0), 0, [])]
theorem zc_m_books : zk_m_books.all (zz_ck zz_inf zM_m_books) = true ∧ zz_ch zk_m_books = true := ⟨by decide +kernel, by decide +kernel⟩
noncomputable def m_books (v1 v2 v3 : Int) (σ : zz_S) : zz_R := (if (zz_h σ 40 1 57) < 300 then (if zz_b σ 88 1 (zz_h σ 40 1 57) then (let s1 := zz_w σ 88 1 (zz_h σ 40 1 57) v1; (if zz_b s1 89 1 (zz_h s1 40 1 57) then (let s2 := zz_w s1 89 1 (zz_h s1 40 1 57) v2; (if zz_b s2 90 1 (zz_h s2 40 1 57) then (let s3 := zz_w s2 90 1 (zz_h s2 40 1 57) v3; (let s4 := zz_w s3 40 1 57 (zz_r ((zz_h s3 40 1 57) + 1)); (some (0, s4)))) else none)) else none)) else none) else (let s5 := zz_w σ 40 1 57 (zz_r ((zz_h σ 40 1 57) + 1)); (some (0, s5))))
set_option maxRecDepth 100000 in
set_option maxHeartbeats 4000000 in
theorem ze_m_books (v1 v2 v3 : Int) (σ : zz_S) : m_books v1 v2 v3 σ = zz_ev (zz_CE []) (zz_KE []) zk_m_books 999 false 0 1 400 true (zz_sk zk_m_books 0) [(0, 42, 1), (1, 0, v1), (2, 0, v2), (3, 0, v3)] [] σ := rfl
theorem zo_m_books : zz_okb zM_m_books 0 [(0, 42, true), (1, 0, false), (2, 0, false), (3, 0, false)] (zz_f3 m_books) :=
  fun vs σ r τ h => by
    obtain ⟨v1, v2, v3, rfl, h⟩ := zz_f3_ok h
    exact zz_from zc_m_books zz_oc0 zz_ol0 ((ze_m_books v1 v2 v3 σ).symm.trans h)
noncomputable def zw_m_books : List Int → zz_S → zz_R := zz_f4 fun a0 a1 a2 a3 σ => if a0 = 1 then m_books a1 a2 a3 σ else none
theorem zo_m_m_books : zz_okm zz_inf 123 zw_m_books := fun vs σ r τ h => by
  obtain ⟨a0, a1, a2, a3, rfl, h⟩ := zz_f4_ok h
  obtain ⟨e, h⟩ := zz_it h
  subst e
  exact zz_meth zi_m_books zy_m_books (zo_m_books [a1, a2, a3] σ r τ h)
def zk_m_dueGone : List zz_E := [(0, false, .aload_n 0, 1, 0, (0, 0, 0, 0), 0, []),
  (1, false, .getfield 26, 3, 804, (40, 10, 46, 1), 0, []),
  (4, false, .iload_n 1, 1, 0, (0, 0, 0, 0), 0, []),
  (5, false, .iaload, 1, 0, (44, 0, 0, 0), 0, []),
  (6, false, .iconst 2, 1, 0, (0, 0, 0, 0), 0, []),
  (7, false, .if_icmp .ne 17, 3, 0, (24, 0, 0, 0), 0, []),
  (10, false, .aload_n 0, 1, 0, (0, 0, 0, 0), 0, []),
  (11, false, .getfield 65, 3, 817, (40, 23, 59, 1), 0, []),
  (14, false, .iload_n 1, 1, 0, (0, 0, 0, 0), 0, []),
  (15, false, .iload_n 2, 1, 0, (0, 0, 0, 0), 0, []),
  (16, false, .aload_n 0, 1, 0, (0, 0, 0, 0), 0, []),
  (17, false, .getfield 32, 3, 806, (40, 12, 48, 1), 0, []),
  (20, false, .iload_n 1, 1, 0, (0, 0, 0, 0), 0, []),
  (21, false, .iaload, 1, 0, (46, 0, 0, 0), 0, []),
  (22, false, .iadd, 1, 0, (0, 0, 0, 0), 0, []),
  (23, false, .iastore, 1, 0, (57, 0, 0, 0), 0, []),
  (24, false, .return_, 1, 0, (0, 0, 0, 0), 0, [])]
theorem zc_m_dueGone : zk_m_dueGone.all (zz_ck zz_inf zM_m_dueGone) = true ∧ zz_ch zk_m_dueGone = true := ⟨by decide +kernel, by decide +kernel⟩
noncomputable def m_dueGone (v1 v2 : Int) (σ : zz_S) : zz_R := (if zz_b σ 44 1 v1 then (if (zz_h σ 44 1 v1) = 2 then (if zz_b σ 46 1 v1 then (if zz_b σ 57 1 v1 then (let s1 := zz_w σ 57 1 v1 (zz_r (v2 + (zz_h σ 46 1 v1))); (some (0, s1))) else none) else none) else (some (0, σ))) else none)
set_option maxRecDepth 100000 in
set_option maxHeartbeats 4000000 in
theorem ze_m_dueGone (v1 v2 : Int) (σ : zz_S) : m_dueGone v1 v2 σ = zz_ev (zz_CE []) (zz_KE []) zk_m_dueGone 999 false 0 1 400 true (zz_sk zk_m_dueGone 0) [(0, 42, 1), (1, 0, v1), (2, 0, v2)] [] σ := rfl
theorem zo_m_dueGone : zz_okb zM_m_dueGone 0 [(0, 42, true), (1, 0, false), (2, 0, false)] (zz_f2 m_dueGone) :=
  fun vs σ r τ h => by
    obtain ⟨v1, v2, rfl, h⟩ := zz_f2_ok h
    exact zz_from zc_m_dueGone zz_oc0 zz_ol0 ((ze_m_dueGone v1 v2 σ).symm.trans h)
noncomputable def zw_m_dueGone : List Int → zz_S → zz_R := zz_f3 fun a0 a1 a2 σ => if a0 = 1 then m_dueGone a1 a2 σ else none
theorem zo_m_m_dueGone : zz_okm zz_inf 124 zw_m_dueGone := fun vs σ r τ h => by
  obtain ⟨a0, a1, a2, rfl, h⟩ := zz_f3_ok h
  obtain ⟨e, h⟩ := zz_it h
  subst e
  exact zz_meth zi_m_dueGone zy_m_dueGone (zo_m_dueGone [a1, a2] σ r τ h)
