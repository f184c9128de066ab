def zk_l_law_0 : List zz_E := [(0, false, .new 7, 3, 82, (3, 0, 0, 0), 0, []),
  (3, false, .dup, 1, 0, (0, 0, 0, 0), 0, []),
  (4, false, .invokespecial 9, 3, 84, (10, 3, 999, 0), 0, [1003]),
  (7, false, .astore_n 1, 1, 0, (0, 0, 0, 0), 0, []),
  (8, false, .new 10, 3, 788, (40, 0, 0, 0), 0, []),
  (11, false, .dup, 1, 0, (0, 0, 0, 0), 0, []),
  (12, false, .invokespecial 12, 3, 790, (107, 40, 999, 0), 0, [1040]),
  (15, false, .astore_n 2, 1, 0, (0, 0, 0, 0), 0, []),
  (16, false, .iconst 0, 1, 0, (0, 0, 0, 0), 0, []),
  (17, false, .istore_n 3, 1, 0, (0, 0, 0, 0), 0, []),
  (18, true, .iload_n 3, 1, 0, (0, 0, 0, 0), 0, []),
  (19, false, .aload_n 0, 1, 0, (0, 0, 0, 0), 0, []),
  (20, false, .arraylength, 1, 0, (0, 0, 0, 0), 0, []),
  (21, false, .iconst 5, 1, 0, (0, 0, 0, 0), 0, []),
  (22, false, .isub, 1, 0, (0, 0, 0, 0), 0, []),
  (23, false, .if_icmp .gt 886, 3, 0, (909, 0, 0, 0), 0, []),
  (26, false, .aload_n 0, 1, 0, (0, 0, 0, 0), 0, []),
  (27, false, .iload_n 3, 1, 0, (0, 0, 0, 0), 0, []),
  (28, false, .iaload, 1, 0, (0, 0, 0, 0), 0, []),
  (29, false, .bipush 31, 2, 0, (0, 0, 0, 0), 0, []),
  (31, false, .iand, 1, 0, (0, 0, 0, 0), 0, []),
  (32, false, .tableswitch 871 0 24 #[116, 139, 162, 205, 248, 301, 354, 397, 440, 453, 476, 499, 532, 555, 568, 601, 634, 667, 700, 733, 756, 779, 812, 835, 858], 116, 0, (903, 0, 0, 0), 0, [148, 171, 194, 237, 280, 333, 386, 429, 472, 485, 508, 531, 564, 587, 600, 633, 666, 699, 732, 765, 788, 811, 844, 867, 890]),
  (148, true, .aload_n 1, 1, 0, (0, 0, 0, 0), 0, []),
  (149, false, .aload_n 0, 1, 0, (0, 0, 0, 0), 0, []),
  (150, false, .iload_n 3, 1, 0, (0, 0, 0, 0), 0, []),
  (151, false, .iconst 1, 1, 0, (0, 0, 0, 0), 0, []),
  (152, false, .iadd, 1, 0, (0, 0, 0, 0), 0, []),
  (153, false, .iaload, 1, 0, (0, 0, 0, 0), 0, []),
  (154, false, .invokevirtual 13, 3, 224, (11, 2, 0, 0), 0, [0, 5]),
  (157, false, .aload_n 2, 1, 0, (0, 0, 0, 0), 0, []),
  (158, false, .aload_n 0, 1, 0, (0, 0, 0, 0), 0, []),
  (159, false, .iload_n 3, 1, 0, (0, 0, 0, 0), 0, []),
  (160, false, .iconst 1, 1, 0, (0, 0, 0, 0), 0, []),
  (161, false, .iadd, 1, 0, (0, 0, 0, 0), 0, []),
  (162, false, .iaload, 1, 0, (0, 0, 0, 0), 0, []),
  (163, false, .invokevirtual 17, 3, 1115, (142, 2, 0, 0), 0, [0, 42]),
  (166, false, .if_icmp .eq 737, 3, 0, (903, 0, 0, 0), 0, []),
  (169, false, .iconst 0, 1, 0, (0, 0, 0, 0), 0, []),
  (170, false, .ireturn, 1, 0, (0, 0, 0, 0), 0, []),
  (171, true, .aload_n 1, 1, 0, (0, 0, 0, 0), 0, [])]
def zk_l_law_1 : List zz_E := [(172, false, .aload_n 0, 1, 0, (0, 0, 0, 0), 0, []),
  (173, false, .iload_n 3, 1, 0, (0, 0, 0, 0), 0, []),
  (174, false, .iconst 1, 1, 0, (0, 0, 0, 0), 0, []),
  (175, false, .iadd, 1, 0, (0, 0, 0, 0), 0, []),
  (176, false, .iaload, 1, 0, (0, 0, 0, 0), 0, []),
  (177, false, .invokevirtual 18, 3, 231, (12, 2, 0, 0), 0, [0, 5]),
  (180, false, .aload_n 2, 1, 0, (0, 0, 0, 0), 0, []),
  (181, false, .aload_n 0, 1, 0, (0, 0, 0, 0), 0, []),
  (182, false, .iload_n 3, 1, 0, (0, 0, 0, 0), 0, []),
  (183, false, .iconst 1, 1, 0, (0, 0, 0, 0), 0, []),
  (184, false, .iadd, 1, 0, (0, 0, 0, 0), 0, []),
  (185, false, .iaload, 1, 0, (0, 0, 0, 0), 0, []),
  (186, false, .invokevirtual 21, 3, 1119, (143, 2, 0, 0), 0, [0, 42]),
  (189, false, .if_icmp .eq 714, 3, 0, (903, 0, 0, 0), 0, []),
  (192, false, .iconst 0, 1, 0, (0, 0, 0, 0), 0, []),
  (193, false, .ireturn, 1, 0, (0, 0, 0, 0), 0, []),
  (194, true, .aload_n 1, 1, 0, (0, 0, 0, 0), 0, []),
  (195, false, .aload_n 0, 1, 0, (0, 0, 0, 0), 0, []),
  (196, false, .iload_n 3, 1, 0, (0, 0, 0, 0), 0, []),
  (197, false, .iconst 1, 1, 0, (0, 0, 0, 0), 0, []),
  (198, false, .iadd, 1, 0, (0, 0, 0, 0), 0, []),
  (199, false, .iaload, 1, 0, (0, 0, 0, 0), 0, []),
  (200, false, .aload_n 0, 1, 0, (0, 0, 0, 0), 0, []),
  (201, false, .iload_n 3, 1, 0, (0, 0, 0, 0), 0, []),
  (202, false, .iconst 2, 1, 0, (0, 0, 0, 0), 0, []),
  (203, false, .iadd, 1, 0, (0, 0, 0, 0), 0, []),
  (204, false, .iaload, 1, 0, (0, 0, 0, 0), 0, []),
  (205, false, .aload_n 0, 1, 0, (0, 0, 0, 0), 0, []),
  (206, false, .iload_n 3, 1, 0, (0, 0, 0, 0), 0, []),
  (207, false, .iconst 3, 1, 0, (0, 0, 0, 0), 0, []),
  (208, false, .iadd, 1, 0, (0, 0, 0, 0), 0, []),
  (209, false, .iaload, 1, 0, (0, 0, 0, 0), 0, []),
  (210, false, .invokevirtual 22, 3, 235, (13, 4, 0, 0), 0, [0, 0, 0, 5]),
  (213, false, .aload_n 2, 1, 0, (0, 0, 0, 0), 0, []),
  (214, false, .aload_n 0, 1, 0, (0, 0, 0, 0), 0, []),
  (215, false, .iload_n 3, 1, 0, (0, 0, 0, 0), 0, []),
  (216, false, .iconst 1, 1, 0, (0, 0, 0, 0), 0, []),
  (217, false, .iadd, 1, 0, (0, 0, 0, 0), 0, []),
  (218, false, .iaload, 1, 0, (0, 0, 0, 0), 0, []),
  (219, false, .aload_n 0, 1, 0, (0, 0, 0, 0), 0, [])]
def zk_l_law_2 : List zz_E := [(220, false, .iload_n 3, 1, 0, (0, 0, 0, 0), 0, []),
  (221, false, .iconst 2, 1, 0, (0, 0, 0, 0), 0, []),
  (222, false, .iadd, 1, 0, (0, 0, 0, 0), 0, []),
  (223, false, .iaload, 1, 0, (0, 0, 0, 0), 0, []),
  (224, false, .aload_n 0, 1, 0, (0, 0, 0, 0), 0, []),
  (225, false, .iload_n 3, 1, 0, (0, 0, 0, 0), 0, []),
  (226, false, .iconst 3, 1, 0, (0, 0, 0, 0), 0, []),
  (227, false, .iadd, 1, 0, (0, 0, 0, 0), 0, []),
  (228, false, .iaload, 1, 0, (0, 0, 0, 0), 0, []),
  (229, false, .invokevirtual 26, 3, 1123, (144, 4, 0, 0), 0, [0, 0, 0, 42]),
  (232, false, .if_icmp .eq 671, 3, 0, (903, 0, 0, 0), 0, []),
  (235, false, .iconst 0, 1, 0, (0, 0, 0, 0), 0, []),
  (236, false, .ireturn, 1, 0, (0, 0, 0, 0), 0, []),
  (237, true, .aload_n 1, 1, 0, (0, 0, 0, 0), 0, []),
  (238, false, .aload_n 0, 1, 0, (0, 0, 0, 0), 0, []),
  (239, false, .iload_n 3, 1, 0, (0, 0, 0, 0), 0, []),
  (240, false, .iconst 1, 1, 0, (0, 0, 0, 0), 0, []),
  (241, false, .iadd, 1, 0, (0, 0, 0, 0), 0, []),
  (242, false, .iaload, 1, 0, (0, 0, 0, 0), 0, []),
  (243, false, .aload_n 0, 1, 0, (0, 0, 0, 0), 0, []),
  (244, false, .iload_n 3, 1, 0, (0, 0, 0, 0), 0, []),
  (245, false, .iconst 2, 1, 0, (0, 0, 0, 0), 0, []),
  (246, false, .iadd, 1, 0, (0, 0, 0, 0), 0, []),
  (247, false, .iaload, 1, 0, (0, 0, 0, 0), 0, []),
  (248, false, .aload_n 0, 1, 0, (0, 0, 0, 0), 0, []),
  (249, false, .iload_n 3, 1, 0, (0, 0, 0, 0), 0, []),
  (250, false, .iconst 3, 1, 0, (0, 0, 0, 0), 0, []),
  (251, false, .iadd, 1, 0, (0, 0, 0, 0), 0, []),
  (252, false, .iaload, 1, 0, (0, 0, 0, 0), 0, []),
  (253, false, .invokevirtual 27, 3, 381, (14, 4, 0, 0), 0, [0, 0, 0, 5]),
  (256, false, .aload_n 2, 1, 0, (0, 0, 0, 0), 0, []),
  (257, false, .aload_n 0, 1, 0, (0, 0, 0, 0), 0, []),
  (258, false, .iload_n 3, 1, 0, (0, 0, 0, 0), 0, []),
  (259, false, .iconst 1, 1, 0, (0, 0, 0, 0), 0, []),
  (260, false, .iadd, 1, 0, (0, 0, 0, 0), 0, []),
  (261, false, .iaload, 1, 0, (0, 0, 0, 0), 0, []),
  (262, false, .aload_n 0, 1, 0, (0, 0, 0, 0), 0, []),
  (263, false, .iload_n 3, 1, 0, (0, 0, 0, 0), 0, []),
  (264, false, .iconst 2, 1, 0, (0, 0, 0, 0), 0, []),
  (265, false, .iadd, 1, 0, (0, 0, 0, 0), 0, [])]
def zk_l_law_3 : List zz_E := [(266, false, .iaload, 1, 0, (0, 0, 0, 0), 0, []),
  (267, false, .aload_n 0, 1, 0, (0, 0, 0, 0), 0, []),
  (268, false, .iload_n 3, 1, 0, (0, 0, 0, 0), 0, []),
  (269, false, .iconst 3, 1, 0, (0, 0, 0, 0), 0, []),
  (270, false, .iadd, 1, 0, (0, 0, 0, 0), 0, []),
  (271, false, .iaload, 1, 0, (0, 0, 0, 0), 0, []),
  (272, false, .invokevirtual 30, 3, 1128, (145, 4, 0, 0), 0, [0, 0, 0, 42]),
  (275, false, .if_icmp .eq 628, 3, 0, (903, 0, 0, 0), 0, []),
  (278, false, .iconst 0, 1, 0, (0, 0, 0, 0), 0, []),
  (279, false, .ireturn, 1, 0, (0, 0, 0, 0), 0, []),
  (280, true, .aload_n 1, 1, 0, (0, 0, 0, 0), 0, []),
  (281, false, .aload_n 0, 1, 0, (0, 0, 0, 0), 0, []),
  (282, false, .iload_n 3, 1, 0, (0, 0, 0, 0), 0, []),
  (283, false, .iconst 1, 1, 0, (0, 0, 0, 0), 0, []),
  (284, false, .iadd, 1, 0, (0, 0, 0, 0), 0, []),
  (285, false, .iaload, 1, 0, (0, 0, 0, 0), 0, []),
  (286, false, .aload_n 0, 1, 0, (0, 0, 0, 0), 0, []),
  (287, false, .iload_n 3, 1, 0, (0, 0, 0, 0), 0, []),
  (288, false, .iconst 2, 1, 0, (0, 0, 0, 0), 0, []),
  (289, false, .iadd, 1, 0, (0, 0, 0, 0), 0, []),
  (290, false, .iaload, 1, 0, (0, 0, 0, 0), 0, []),
  (291, false, .aload_n 0, 1, 0, (0, 0, 0, 0), 0, []),
  (292, false, .iload_n 3, 1, 0, (0, 0, 0, 0), 0, []),
  (293, false, .iconst 3, 1, 0, (0, 0, 0, 0), 0, []),
  (294, false, .iadd, 1, 0, (0, 0, 0, 0), 0, []),
  (295, false, .iaload, 1, 0, (0, 0, 0, 0), 0, []),
  (296, false, .aload_n 0, 1, 0, (0, 0, 0, 0), 0, []),
  (297, false, .iload_n 3, 1, 0, (0, 0, 0, 0), 0, []),
  (298, false, .iconst 4, 1, 0, (0, 0, 0, 0), 0, []),
  (299, false, .iadd, 1, 0, (0, 0, 0, 0), 0, []),
  (300, false, .iaload, 1, 0, (0, 0, 0, 0), 0, []),
  (301, false, .invokevirtual 31, 3, 396, (17, 5, 0, 0), 0, [0, 0, 0, 0, 5]),
  (304, false, .aload_n 2, 1, 0, (0, 0, 0, 0), 0, []),
  (305, false, .aload_n 0, 1, 0, (0, 0, 0, 0), 0, []),
  (306, false, .iload_n 3, 1, 0, (0, 0, 0, 0), 0, []),
  (307, false, .iconst 1, 1, 0, (0, 0, 0, 0), 0, []),
  (308, false, .iadd, 1, 0, (0, 0, 0, 0), 0, []),
  (309, false, .iaload, 1, 0, (0, 0, 0, 0), 0, []),
  (310, false, .aload_n 0, 1, 0, (0, 0, 0, 0), 0, []),
  (311, false, .iload_n 3, 1, 0, (0, 0, 0, 0), 0, [])]
def zk_l_law_4 : List zz_E := [(312, false, .iconst 2, 1, 0, (0, 0, 0, 0), 0, []),
  (313, false, .iadd, 1, 0, (0, 0, 0, 0), 0, []),
  (314, false, .iaload, 1, 0, (0, 0, 0, 0), 0, []),
  (315, false, .aload_n 0, 1, 0, (0, 0, 0, 0), 0, []),
  (316, false, .iload_n 3, 1, 0, (0, 0, 0, 0), 0, []),
  (317, false, .iconst 3, 1, 0, (0, 0, 0, 0), 0, []),
  (318, false, .iadd, 1, 0, (0, 0, 0, 0), 0, []),
  (319, false, .iaload, 1, 0, (0, 0, 0, 0), 0, []),
  (320, false, .aload_n 0, 1, 0, (0, 0, 0, 0), 0, []),
  (321, false, .iload_n 3, 1, 0, (0, 0, 0, 0), 0, []),
  (322, false, .iconst 4, 1, 0, (0, 0, 0, 0), 0, []),
  (323, false, .iadd, 1, 0, (0, 0, 0, 0), 0, []),
  (324, false, .iaload, 1, 0, (0, 0, 0, 0), 0, []),
  (325, false, .invokevirtual 35, 3, 1132, (147, 5, 0, 0), 0, [0, 0, 0, 0, 42]),
  (328, false, .if_icmp .eq 575, 3, 0, (903, 0, 0, 0), 0, []),
  (331, false, .iconst 0, 1, 0, (0, 0, 0, 0), 0, []),
  (332, false, .ireturn, 1, 0, (0, 0, 0, 0), 0, []),
  (333, true, .aload_n 1, 1, 0, (0, 0, 0, 0), 0, []),
  (334, false, .aload_n 0, 1, 0, (0, 0, 0, 0), 0, []),
  (335, false, .iload_n 3, 1, 0, (0, 0, 0, 0), 0, []),
  (336, false, .iconst 1, 1, 0, (0, 0, 0, 0), 0, []),
  (337, false, .iadd, 1, 0, (0, 0, 0, 0), 0, []),
  (338, false, .iaload, 1, 0, (0, 0, 0, 0), 0, []),
  (339, false, .aload_n 0, 1, 0, (0, 0, 0, 0), 0, []),
  (340, false, .iload_n 3, 1, 0, (0, 0, 0, 0), 0, []),
  (341, false, .iconst 2, 1, 0, (0, 0, 0, 0), 0, []),
  (342, false, .iadd, 1, 0, (0, 0, 0, 0), 0, []),
  (343, false, .iaload, 1, 0, (0, 0, 0, 0), 0, []),
  (344, false, .aload_n 0, 1, 0, (0, 0, 0, 0), 0, []),
  (345, false, .iload_n 3, 1, 0, (0, 0, 0, 0), 0, []),
  (346, false, .iconst 3, 1, 0, (0, 0, 0, 0), 0, []),
  (347, false, .iadd, 1, 0, (0, 0, 0, 0), 0, []),
  (348, false, .iaload, 1, 0, (0, 0, 0, 0), 0, []),
  (349, false, .aload_n 0, 1, 0, (0, 0, 0, 0), 0, []),
  (350, false, .iload_n 3, 1, 0, (0, 0, 0, 0), 0, []),
  (351, false, .iconst 4, 1, 0, (0, 0, 0, 0), 0, []),
  (352, false, .iadd, 1, 0, (0, 0, 0, 0), 0, []),
  (353, false, .iaload, 1, 0, (0, 0, 0, 0), 0, []),
  (354, false, .invokevirtual 36, 3, 413, (18, 5, 0, 0), 0, [0, 0, 0, 0, 5]),
  (357, false, .aload_n 2, 1, 0, (0, 0, 0, 0), 0, [])]
def zk_l_law_5 : List zz_E := [(358, false, .aload_n 0, 1, 0, (0, 0, 0, 0), 0, []),
  (359, false, .iload_n 3, 1, 0, (0, 0, 0, 0), 0, []),
  (360, false, .iconst 1, 1, 0, (0, 0, 0, 0), 0, []),
  (361, false, .iadd, 1, 0, (0, 0, 0, 0), 0, []),
  (362, false, .iaload, 1, 0, (0, 0, 0, 0), 0, []),
  (363, false, .aload_n 0, 1, 0, (0, 0, 0, 0), 0, []),
  (364, false, .iload_n 3, 1, 0, (0, 0, 0, 0), 0, []),
  (365, false, .iconst 2, 1, 0, (0, 0, 0, 0), 0, []),
  (366, false, .iadd, 1, 0, (0, 0, 0, 0), 0, []),
  (367, false, .iaload, 1, 0, (0, 0, 0, 0), 0, []),
  (368, false, .aload_n 0, 1, 0, (0, 0, 0, 0), 0, []),
  (369, false, .iload_n 3, 1, 0, (0, 0, 0, 0), 0, []),
  (370, false, .iconst 3, 1, 0, (0, 0, 0, 0), 0, []),
  (371, false, .iadd, 1, 0, (0, 0, 0, 0), 0, []),
  (372, false, .iaload, 1, 0, (0, 0, 0, 0), 0, []),
  (373, false, .aload_n 0, 1, 0, (0, 0, 0, 0), 0, []),
  (374, false, .iload_n 3, 1, 0, (0, 0, 0, 0), 0, []),
  (375, false, .iconst 4, 1, 0, (0, 0, 0, 0), 0, []),
  (376, false, .iadd, 1, 0, (0, 0, 0, 0), 0, []),
  (377, false, .iaload, 1, 0, (0, 0, 0, 0), 0, []),
  (378, false, .invokevirtual 39, 3, 1139, (148, 5, 0, 0), 0, [0, 0, 0, 0, 42]),
  (381, false, .if_icmp .eq 522, 3, 0, (903, 0, 0, 0), 0, []),
  (384, false, .iconst 0, 1, 0, (0, 0, 0, 0), 0, []),
  (385, false, .ireturn, 1, 0, (0, 0, 0, 0), 0, []),
  (386, true, .aload_n 1, 1, 0, (0, 0, 0, 0), 0, []),
  (387, false, .aload_n 0, 1, 0, (0, 0, 0, 0), 0, []),
  (388, false, .iload_n 3, 1, 0, (0, 0, 0, 0), 0, []),
  (389, false, .iconst 1, 1, 0, (0, 0, 0, 0), 0, []),
  (390, false, .iadd, 1, 0, (0, 0, 0, 0), 0, []),
  (391, false, .iaload, 1, 0, (0, 0, 0, 0), 0, []),
  (392, false, .aload_n 0, 1, 0, (0, 0, 0, 0), 0, []),
  (393, false, .iload_n 3, 1, 0, (0, 0, 0, 0), 0, []),
  (394, false, .iconst 2, 1, 0, (0, 0, 0, 0), 0, []),
  (395, false, .iadd, 1, 0, (0, 0, 0, 0), 0, []),
  (396, false, .iaload, 1, 0, (0, 0, 0, 0), 0, []),
  (397, false, .aload_n 0, 1, 0, (0, 0, 0, 0), 0, []),
  (398, false, .iload_n 3, 1, 0, (0, 0, 0, 0), 0, []),
  (399, false, .iconst 3, 1, 0, (0, 0, 0, 0), 0, []),
  (400, false, .iadd, 1, 0, (0, 0, 0, 0), 0, []),
  (401, false, .iaload, 1, 0, (0, 0, 0, 0), 0, [])]
def zk_l_law_6 : List zz_E := [(402, false, .invokevirtual 40, 3, 417, (19, 4, 0, 0), 0, [0, 0, 0, 5]),
  (405, false, .aload_n 2, 1, 0, (0, 0, 0, 0), 0, []),
  (406, false, .aload_n 0, 1, 0, (0, 0, 0, 0), 0, []),
  (407, false, .iload_n 3, 1, 0, (0, 0, 0, 0), 0, []),
  (408, false, .iconst 1, 1, 0, (0, 0, 0, 0), 0, []),
  (409, false, .iadd, 1, 0, (0, 0, 0, 0), 0, []),
  (410, false, .iaload, 1, 0, (0, 0, 0, 0), 0, []),
  (411, false, .aload_n 0, 1, 0, (0, 0, 0, 0), 0, []),
  (412, false, .iload_n 3, 1, 0, (0, 0, 0, 0), 0, []),
  (413, false, .iconst 2, 1, 0, (0, 0, 0, 0), 0, []),
  (414, false, .iadd, 1, 0, (0, 0, 0, 0), 0, []),
  (415, false, .iaload, 1, 0, (0, 0, 0, 0), 0, []),
  (416, false, .aload_n 0, 1, 0, (0, 0, 0, 0), 0, []),
  (417, false, .iload_n 3, 1, 0, (0, 0, 0, 0), 0, []),
  (418, false, .iconst 3, 1, 0, (0, 0, 0, 0), 0, []),
  (419, false, .iadd, 1, 0, (0, 0, 0, 0), 0, []),
  (420, false, .iaload, 1, 0, (0, 0, 0, 0), 0, []),
  (421, false, .invokevirtual 43, 3, 1143, (150, 4, 0, 0), 0, [0, 0, 0, 42]),
  (424, false, .if_icmp .eq 479, 3, 0, (903, 0, 0, 0), 0, []),
  (427, false, .iconst 0, 1, 0, (0, 0, 0, 0), 0, []),
  (428, false, .ireturn, 1, 0, (0, 0, 0, 0), 0, []),
  (429, true, .aload_n 1, 1, 0, (0, 0, 0, 0), 0, []),
  (430, false, .aload_n 0, 1, 0, (0, 0, 0, 0), 0, []),
  (431, false, .iload_n 3, 1, 0, (0, 0, 0, 0), 0, []),
  (432, false, .iconst 1, 1, 0, (0, 0, 0, 0), 0, []),
  (433, false, .iadd, 1, 0, (0, 0, 0, 0), 0, []),
  (434, false, .iaload, 1, 0, (0, 0, 0, 0), 0, []),
  (435, false, .aload_n 0, 1, 0, (0, 0, 0, 0), 0, []),
  (436, false, .iload_n 3, 1, 0, (0, 0, 0, 0), 0, []),
  (437, false, .iconst 2, 1, 0, (0, 0, 0, 0), 0, []),
  (438, false, .iadd, 1, 0, (0, 0, 0, 0), 0, []),
  (439, false, .iaload, 1, 0, (0, 0, 0, 0), 0, []),
  (440, false, .aload_n 0, 1, 0, (0, 0, 0, 0), 0, []),
  (441, false, .iload_n 3, 1, 0, (0, 0, 0, 0), 0, []),
  (442, false, .iconst 3, 1, 0, (0, 0, 0, 0), 0, []),
  (443, false, .iadd, 1, 0, (0, 0, 0, 0), 0, []),
  (444, false, .iaload, 1, 0, (0, 0, 0, 0), 0, []),
  (445, false, .invokevirtual 44, 3, 433, (22, 4, 0, 0), 0, [0, 0, 0, 5]),
  (448, false, .aload_n 2, 1, 0, (0, 0, 0, 0), 0, []),
  (449, false, .aload_n 0, 1, 0, (0, 0, 0, 0), 0, [])]
def zk_l_law_7 : List zz_E := [(450, false, .iload_n 3, 1, 0, (0, 0, 0, 0), 0, []),
  (451, false, .iconst 1, 1, 0, (0, 0, 0, 0), 0, []),
  (452, false, .iadd, 1, 0, (0, 0, 0, 0), 0, []),
  (453, false, .iaload, 1, 0, (0, 0, 0, 0), 0, []),
  (454, false, .aload_n 0, 1, 0, (0, 0, 0, 0), 0, []),
  (455, false, .iload_n 3, 1, 0, (0, 0, 0, 0), 0, []),
  (456, false, .iconst 2, 1, 0, (0, 0, 0, 0), 0, []),
  (457, false, .iadd, 1, 0, (0, 0, 0, 0), 0, []),
  (458, false, .iaload, 1, 0, (0, 0, 0, 0), 0, []),
  (459, false, .aload_n 0, 1, 0, (0, 0, 0, 0), 0, []),
  (460, false, .iload_n 3, 1, 0, (0, 0, 0, 0), 0, []),
  (461, false, .iconst 3, 1, 0, (0, 0, 0, 0), 0, []),
  (462, false, .iadd, 1, 0, (0, 0, 0, 0), 0, []),
  (463, false, .iaload, 1, 0, (0, 0, 0, 0), 0, []),
  (464, false, .invokevirtual 47, 3, 1151, (151, 4, 0, 0), 0, [0, 0, 0, 42]),
  (467, false, .if_icmp .eq 436, 3, 0, (903, 0, 0, 0), 0, []),
  (470, false, .iconst 0, 1, 0, (0, 0, 0, 0), 0, []),
  (471, false, .ireturn, 1, 0, (0, 0, 0, 0), 0, []),
  (472, false, .aload_n 1, 1, 0, (0, 0, 0, 0), 0, []),
  (473, false, .invokevirtual 48, 3, 448, (23, 1, 0, 0), 0, [5]),
  (476, false, .aload_n 2, 1, 0, (0, 0, 0, 0), 0, []),
  (477, false, .invokevirtual 52, 3, 1155, (152, 1, 0, 0), 0, [42]),
  (480, false, .if_icmp .eq 423, 3, 0, (903, 0, 0, 0), 0, []),
  (483, false, .iconst 0, 1, 0, (0, 0, 0, 0), 0, []),
  (484, false, .ireturn, 1, 0, (0, 0, 0, 0), 0, []),
  (485, true, .aload_n 1, 1, 0, (0, 0, 0, 0), 0, []),
  (486, false, .aload_n 0, 1, 0, (0, 0, 0, 0), 0, []),
  (487, false, .iload_n 3, 1, 0, (0, 0, 0, 0), 0, []),
  (488, false, .iconst 1, 1, 0, (0, 0, 0, 0), 0, []),
  (489, false, .iadd, 1, 0, (0, 0, 0, 0), 0, []),
  (490, false, .iaload, 1, 0, (0, 0, 0, 0), 0, []),
  (491, false, .invokevirtual 53, 3, 452, (24, 2, 0, 0), 0, [0, 5]),
  (494, false, .aload_n 2, 1, 0, (0, 0, 0, 0), 0, []),
  (495, false, .aload_n 0, 1, 0, (0, 0, 0, 0), 0, []),
  (496, false, .iload_n 3, 1, 0, (0, 0, 0, 0), 0, []),
  (497, false, .iconst 1, 1, 0, (0, 0, 0, 0), 0, []),
  (498, false, .iadd, 1, 0, (0, 0, 0, 0), 0, []),
  (499, false, .iaload, 1, 0, (0, 0, 0, 0), 0, []),
  (500, false, .invokevirtual 56, 3, 996, (141, 2, 0, 0), 0, [0, 42]),
  (503, false, .if_icmp .eq 400, 3, 0, (903, 0, 0, 0), 0, [])]
def zk_l_law_8 : List zz_E := [(506, false, .iconst 0, 1, 0, (0, 0, 0, 0), 0, []),
  (507, false, .ireturn, 1, 0, (0, 0, 0, 0), 0, []),
  (508, true, .aload_n 1, 1, 0, (0, 0, 0, 0), 0, []),
  (509, false, .aload_n 0, 1, 0, (0, 0, 0, 0), 0, []),
  (510, false, .iload_n 3, 1, 0, (0, 0, 0, 0), 0, []),
  (511, false, .iconst 1, 1, 0, (0, 0, 0, 0), 0, []),
  (512, false, .iadd, 1, 0, (0, 0, 0, 0), 0, []),
  (513, false, .iaload, 1, 0, (0, 0, 0, 0), 0, []),
  (514, false, .invokevirtual 57, 3, 678, (48, 2, 0, 0), 0, [0, 5]),
  (517, false, .aload_n 2, 1, 0, (0, 0, 0, 0), 0, []),
  (518, false, .aload_n 0, 1, 0, (0, 0, 0, 0), 0, []),
  (519, false, .iload_n 3, 1, 0, (0, 0, 0, 0), 0, []),
  (520, false, .iconst 1, 1, 0, (0, 0, 0, 0), 0, []),
  (521, false, .iadd, 1, 0, (0, 0, 0, 0), 0, []),
  (522, false, .iaload, 1, 0, (0, 0, 0, 0), 0, []),
  (523, false, .invokevirtual 60, 3, 1159, (153, 2, 0, 0), 0, [0, 42]),
  (526, false, .if_icmp .eq 377, 3, 0, (903, 0, 0, 0), 0, []),
  (529, false, .iconst 0, 1, 0, (0, 0, 0, 0), 0, []),
  (530, false, .ireturn, 1, 0, (0, 0, 0, 0), 0, []),
  (531, true, .aload_n 1, 1, 0, (0, 0, 0, 0), 0, []),
  (532, false, .aload_n 0, 1, 0, (0, 0, 0, 0), 0, []),
  (533, false, .iload_n 3, 1, 0, (0, 0, 0, 0), 0, []),
  (534, false, .iconst 1, 1, 0, (0, 0, 0, 0), 0, []),
  (535, false, .iadd, 1, 0, (0, 0, 0, 0), 0, []),
  (536, false, .iaload, 1, 0, (0, 0, 0, 0), 0, []),
  (537, false, .aload_n 0, 1, 0, (0, 0, 0, 0), 0, []),
  (538, false, .iload_n 3, 1, 0, (0, 0, 0, 0), 0, []),
  (539, false, .iconst 2, 1, 0, (0, 0, 0, 0), 0, []),
  (540, false, .iadd, 1, 0, (0, 0, 0, 0), 0, []),
  (541, false, .iaload, 1, 0, (0, 0, 0, 0), 0, []),
  (542, false, .invokevirtual 61, 3, 696, (51, 3, 0, 0), 0, [0, 0, 5]),
  (545, false, .aload_n 2, 1, 0, (0, 0, 0, 0), 0, []),
  (546, false, .aload_n 0, 1, 0, (0, 0, 0, 0), 0, []),
  (547, false, .iload_n 3, 1, 0, (0, 0, 0, 0), 0, []),
  (548, false, .iconst 1, 1, 0, (0, 0, 0, 0), 0, []),
  (549, false, .iadd, 1, 0, (0, 0, 0, 0), 0, []),
  (550, false, .iaload, 1, 0, (0, 0, 0, 0), 0, []),
  (551, false, .aload_n 0, 1, 0, (0, 0, 0, 0), 0, []),
  (552, false, .iload_n 3, 1, 0, (0, 0, 0, 0), 0, []),
  (553, false, .iconst 2, 1, 0, (0, 0, 0, 0), 0, [])]
def zk_l_law_9 : List zz_E := [(554, false, .iadd, 1, 0, (0, 0, 0, 0), 0, []),
  (555, false, .iaload, 1, 0, (0, 0, 0, 0), 0, []),
  (556, false, .invokevirtual 65, 3, 1163, (154, 3, 0, 0), 0, [0, 0, 42]),
  (559, false, .if_icmp .eq 344, 3, 0, (903, 0, 0, 0), 0, []),
  (562, false, .iconst 0, 1, 0, (0, 0, 0, 0), 0, []),
  (563, false, .ireturn, 1, 0, (0, 0, 0, 0), 0, []),
  (564, true, .aload_n 1, 1, 0, (0, 0, 0, 0), 0, []),
  (565, false, .aload_n 0, 1, 0, (0, 0, 0, 0), 0, []),
  (566, false, .iload_n 3, 1, 0, (0, 0, 0, 0), 0, []),
  (567, false, .iconst 1, 1, 0, (0, 0, 0, 0), 0, []),
  (568, false, .iadd, 1, 0, (0, 0, 0, 0), 0, []),
  (569, false, .iaload, 1, 0, (0, 0, 0, 0), 0, []),
  (570, false, .invokevirtual 66, 3, 708, (55, 2, 0, 0), 0, [0, 5]),
  (573, false, .aload_n 2, 1, 0, (0, 0, 0, 0), 0, []),
  (574, false, .aload_n 0, 1, 0, (0, 0, 0, 0), 0, []),
  (575, false, .iload_n 3, 1, 0, (0, 0, 0, 0), 0, []),
  (576, false, .iconst 1, 1, 0, (0, 0, 0, 0), 0, []),
  (577, false, .iadd, 1, 0, (0, 0, 0, 0), 0, []),
  (578, false, .iaload, 1, 0, (0, 0, 0, 0), 0, []),
  (579, false, .invokevirtual 69, 3, 1171, (155, 2, 0, 0), 0, [0, 42]),
  (582, false, .if_icmp .eq 321, 3, 0, (903, 0, 0, 0), 0, []),
  (585, false, .iconst 0, 1, 0, (0, 0, 0, 0), 0, []),
  (586, false, .ireturn, 1, 0, (0, 0, 0, 0), 0, []),
  (587, false, .aload_n 1, 1, 0, (0, 0, 0, 0), 0, []),
  (588, false, .invokevirtual 70, 3, 720, (57, 1, 0, 0), 0, [5]),
  (591, false, .aload_n 2, 1, 0, (0, 0, 0, 0), 0, []),
  (592, false, .invokevirtual 73, 3, 1175, (156, 1, 0, 0), 0, [42]),
  (595, false, .if_icmp .eq 308, 3, 0, (903, 0, 0, 0), 0, []),
  (598, false, .iconst 0, 1, 0, (0, 0, 0, 0), 0, []),
  (599, false, .ireturn, 1, 0, (0, 0, 0, 0), 0, []),
  (600, true, .aload_n 1, 1, 0, (0, 0, 0, 0), 0, []),
  (601, false, .aload_n 0, 1, 0, (0, 0, 0, 0), 0, []),
  (602, false, .iload_n 3, 1, 0, (0, 0, 0, 0), 0, []),
  (603, false, .iconst 1, 1, 0, (0, 0, 0, 0), 0, []),
  (604, false, .iadd, 1, 0, (0, 0, 0, 0), 0, []),
  (605, false, .iaload, 1, 0, (0, 0, 0, 0), 0, []),
  (606, false, .aload_n 0, 1, 0, (0, 0, 0, 0), 0, []),
  (607, false, .iload_n 3, 1, 0, (0, 0, 0, 0), 0, []),
  (608, false, .iconst 2, 1, 0, (0, 0, 0, 0), 0, []),
  (609, false, .iadd, 1, 0, (0, 0, 0, 0), 0, [])]
def zk_l_law_10 : List zz_E := [(610, false, .iaload, 1, 0, (0, 0, 0, 0), 0, []),
  (611, false, .invokevirtual 74, 3, 724, (58, 3, 0, 0), 0, [0, 0, 5]),
  (614, false, .aload_n 2, 1, 0, (0, 0, 0, 0), 0, []),
  (615, false, .aload_n 0, 1, 0, (0, 0, 0, 0), 0, []),
  (616, false, .iload_n 3, 1, 0, (0, 0, 0, 0), 0, []),
  (617, false, .iconst 1, 1, 0, (0, 0, 0, 0), 0, []),
  (618, false, .iadd, 1, 0, (0, 0, 0, 0), 0, []),
  (619, false, .iaload, 1, 0, (0, 0, 0, 0), 0, []),
  (620, false, .aload_n 0, 1, 0, (0, 0, 0, 0), 0, []),
  (621, false, .iload_n 3, 1, 0, (0, 0, 0, 0), 0, []),
  (622, false, .iconst 2, 1, 0, (0, 0, 0, 0), 0, []),
  (623, false, .iadd, 1, 0, (0, 0, 0, 0), 0, []),
  (624, false, .iaload, 1, 0, (0, 0, 0, 0), 0, []),
  (625, false, .invokevirtual 77, 3, 1179, (157, 3, 0, 0), 0, [0, 0, 42]),
  (628, false, .if_icmp .eq 275, 3, 0, (903, 0, 0, 0), 0, []),
  (631, false, .iconst 0, 1, 0, (0, 0, 0, 0), 0, []),
  (632, false, .ireturn, 1, 0, (0, 0, 0, 0), 0, []),
  (633, true, .aload_n 1, 1, 0, (0, 0, 0, 0), 0, []),
  (634, false, .aload_n 0, 1, 0, (0, 0, 0, 0), 0, []),
  (635, false, .iload_n 3, 1, 0, (0, 0, 0, 0), 0, []),
  (636, false, .iconst 1, 1, 0, (0, 0, 0, 0), 0, []),
  (637, false, .iadd, 1, 0, (0, 0, 0, 0), 0, []),
  (638, false, .iaload, 1, 0, (0, 0, 0, 0), 0, []),
  (639, false, .aload_n 0, 1, 0, (0, 0, 0, 0), 0, []),
  (640, false, .iload_n 3, 1, 0, (0, 0, 0, 0), 0, []),
  (641, false, .iconst 2, 1, 0, (0, 0, 0, 0), 0, []),
  (642, false, .iadd, 1, 0, (0, 0, 0, 0), 0, []),
  (643, false, .iaload, 1, 0, (0, 0, 0, 0), 0, []),
  (644, false, .invokevirtual 78, 3, 728, (59, 3, 0, 0), 0, [0, 0, 5]),
  (647, false, .aload_n 2, 1, 0, (0, 0, 0, 0), 0, []),
  (648, false, .aload_n 0, 1, 0, (0, 0, 0, 0), 0, []),
  (649, false, .iload_n 3, 1, 0, (0, 0, 0, 0), 0, []),
  (650, false, .iconst 1, 1, 0, (0, 0, 0, 0), 0, []),
  (651, false, .iadd, 1, 0, (0, 0, 0, 0), 0, []),
  (652, false, .iaload, 1, 0, (0, 0, 0, 0), 0, []),
  (653, false, .aload_n 0, 1, 0, (0, 0, 0, 0), 0, []),
  (654, false, .iload_n 3, 1, 0, (0, 0, 0, 0), 0, []),
  (655, false, .iconst 2, 1, 0, (0, 0, 0, 0), 0, []),
  (656, false, .iadd, 1, 0, (0, 0, 0, 0), 0, []),
  (657, false, .iaload, 1, 0, (0, 0, 0, 0), 0, [])]
def zk_l_law_11 : List zz_E := [(658, false, .invokevirtual 81, 3, 1183, (158, 3, 0, 0), 0, [0, 0, 42]),
  (661, false, .if_icmp .eq 242, 3, 0, (903, 0, 0, 0), 0, []),
  (664, false, .iconst 0, 1, 0, (0, 0, 0, 0), 0, []),
  (665, false, .ireturn, 1, 0, (0, 0, 0, 0), 0, []),
  (666, true, .aload_n 1, 1, 0, (0, 0, 0, 0), 0, []),
  (667, false, .aload_n 0, 1, 0, (0, 0, 0, 0), 0, []),
  (668, false, .iload_n 3, 1, 0, (0, 0, 0, 0), 0, []),
  (669, false, .iconst 1, 1, 0, (0, 0, 0, 0), 0, []),
  (670, false, .iadd, 1, 0, (0, 0, 0, 0), 0, []),
  (671, false, .iaload, 1, 0, (0, 0, 0, 0), 0, []),
  (672, false, .aload_n 0, 1, 0, (0, 0, 0, 0), 0, []),
  (673, false, .iload_n 3, 1, 0, (0, 0, 0, 0), 0, []),
  (674, false, .iconst 2, 1, 0, (0, 0, 0, 0), 0, []),
  (675, false, .iadd, 1, 0, (0, 0, 0, 0), 0, []),
  (676, false, .iaload, 1, 0, (0, 0, 0, 0), 0, []),
  (677, false, .invokevirtual 82, 3, 736, (61, 3, 0, 0), 0, [0, 0, 5]),
  (680, false, .aload_n 2, 1, 0, (0, 0, 0, 0), 0, []),
  (681, false, .aload_n 0, 1, 0, (0, 0, 0, 0), 0, []),
  (682, false, .iload_n 3, 1, 0, (0, 0, 0, 0), 0, []),
  (683, false, .iconst 1, 1, 0, (0, 0, 0, 0), 0, []),
  (684, false, .iadd, 1, 0, (0, 0, 0, 0), 0, []),
  (685, false, .iaload, 1, 0, (0, 0, 0, 0), 0, []),
  (686, false, .aload_n 0, 1, 0, (0, 0, 0, 0), 0, []),
  (687, false, .iload_n 3, 1, 0, (0, 0, 0, 0), 0, []),
  (688, false, .iconst 2, 1, 0, (0, 0, 0, 0), 0, []),
  (689, false, .iadd, 1, 0, (0, 0, 0, 0), 0, []),
  (690, false, .iaload, 1, 0, (0, 0, 0, 0), 0, []),
  (691, false, .invokevirtual 85, 3, 1187, (159, 3, 0, 0), 0, [0, 0, 42]),
  (694, false, .if_icmp .eq 209, 3, 0, (903, 0, 0, 0), 0, []),
  (697, false, .iconst 0, 1, 0, (0, 0, 0, 0), 0, []),
  (698, false, .ireturn, 1, 0, (0, 0, 0, 0), 0, []),
  (699, true, .aload_n 1, 1, 0, (0, 0, 0, 0), 0, []),
  (700, false, .aload_n 0, 1, 0, (0, 0, 0, 0), 0, []),
  (701, false, .iload_n 3, 1, 0, (0, 0, 0, 0), 0, []),
  (702, false, .iconst 1, 1, 0, (0, 0, 0, 0), 0, []),
  (703, false, .iadd, 1, 0, (0, 0, 0, 0), 0, []),
  (704, false, .iaload, 1, 0, (0, 0, 0, 0), 0, []),
  (705, false, .aload_n 0, 1, 0, (0, 0, 0, 0), 0, []),
  (706, false, .iload_n 3, 1, 0, (0, 0, 0, 0), 0, []),
  (707, false, .iconst 2, 1, 0, (0, 0, 0, 0), 0, [])]
def zk_l_law_12 : List zz_E := [(708, false, .iadd, 1, 0, (0, 0, 0, 0), 0, []),
  (709, false, .iaload, 1, 0, (0, 0, 0, 0), 0, []),
  (710, false, .invokevirtual 86, 3, 753, (64, 3, 0, 0), 0, [0, 0, 5]),
  (713, false, .aload_n 2, 1, 0, (0, 0, 0, 0), 0, []),
  (714, false, .aload_n 0, 1, 0, (0, 0, 0, 0), 0, []),
  (715, false, .iload_n 3, 1, 0, (0, 0, 0, 0), 0, []),
  (716, false, .iconst 1, 1, 0, (0, 0, 0, 0), 0, []),
  (717, false, .iadd, 1, 0, (0, 0, 0, 0), 0, []),
  (718, false, .iaload, 1, 0, (0, 0, 0, 0), 0, []),
  (719, false, .aload_n 0, 1, 0, (0, 0, 0, 0), 0, []),
  (720, false, .iload_n 3, 1, 0, (0, 0, 0, 0), 0, []),
  (721, false, .iconst 2, 1, 0, (0, 0, 0, 0), 0, []),
  (722, false, .iadd, 1, 0, (0, 0, 0, 0), 0, []),
  (723, false, .iaload, 1, 0, (0, 0, 0, 0), 0, []),
  (724, false, .invokevirtual 89, 3, 1203, (160, 3, 0, 0), 0, [0, 0, 42]),
  (727, false, .if_icmp .eq 176, 3, 0, (903, 0, 0, 0), 0, []),
  (730, false, .iconst 0, 1, 0, (0, 0, 0, 0), 0, []),
  (731, false, .ireturn, 1, 0, (0, 0, 0, 0), 0, []),
  (732, true, .aload_n 1, 1, 0, (0, 0, 0, 0), 0, []),
  (733, false, .aload_n 0, 1, 0, (0, 0, 0, 0), 0, []),
  (734, false, .iload_n 3, 1, 0, (0, 0, 0, 0), 0, []),
  (735, false, .iconst 1, 1, 0, (0, 0, 0, 0), 0, []),
  (736, false, .iadd, 1, 0, (0, 0, 0, 0), 0, []),
  (737, false, .iaload, 1, 0, (0, 0, 0, 0), 0, []),
  (738, false, .aload_n 0, 1, 0, (0, 0, 0, 0), 0, []),
  (739, false, .iload_n 3, 1, 0, (0, 0, 0, 0), 0, []),
  (740, false, .iconst 2, 1, 0, (0, 0, 0, 0), 0, []),
  (741, false, .iadd, 1, 0, (0, 0, 0, 0), 0, []),
  (742, false, .iaload, 1, 0, (0, 0, 0, 0), 0, []),
  (743, false, .invokevirtual 90, 3, 757, (65, 3, 0, 0), 0, [0, 0, 5]),
  (746, false, .aload_n 2, 1, 0, (0, 0, 0, 0), 0, []),
  (747, false, .aload_n 0, 1, 0, (0, 0, 0, 0), 0, []),
  (748, false, .iload_n 3, 1, 0, (0, 0, 0, 0), 0, []),
  (749, false, .iconst 1, 1, 0, (0, 0, 0, 0), 0, []),
  (750, false, .iadd, 1, 0, (0, 0, 0, 0), 0, []),
  (751, false, .iaload, 1, 0, (0, 0, 0, 0), 0, []),
  (752, false, .aload_n 0, 1, 0, (0, 0, 0, 0), 0, []),
  (753, false, .iload_n 3, 1, 0, (0, 0, 0, 0), 0, []),
  (754, false, .iconst 2, 1, 0, (0, 0, 0, 0), 0, []),
  (755, false, .iadd, 1, 0, (0, 0, 0, 0), 0, [])]
def zk_l_law_13 : List zz_E := [(756, false, .iaload, 1, 0, (0, 0, 0, 0), 0, []),
  (757, false, .invokevirtual 93, 3, 1207, (161, 3, 0, 0), 0, [0, 0, 42]),
  (760, false, .if_icmp .eq 143, 3, 0, (903, 0, 0, 0), 0, []),
  (763, false, .iconst 0, 1, 0, (0, 0, 0, 0), 0, []),
  (764, false, .ireturn, 1, 0, (0, 0, 0, 0), 0, []),
  (765, true, .aload_n 1, 1, 0, (0, 0, 0, 0), 0, []),
  (766, false, .aload_n 0, 1, 0, (0, 0, 0, 0), 0, []),
  (767, false, .iload_n 3, 1, 0, (0, 0, 0, 0), 0, []),
  (768, false, .iconst 1, 1, 0, (0, 0, 0, 0), 0, []),
  (769, false, .iadd, 1, 0, (0, 0, 0, 0), 0, []),
  (770, false, .iaload, 1, 0, (0, 0, 0, 0), 0, []),
  (771, false, .invokevirtual 94, 3, 761, (66, 2, 0, 0), 0, [0, 5]),
  (774, false, .aload_n 2, 1, 0, (0, 0, 0, 0), 0, []),
  (775, false, .aload_n 0, 1, 0, (0, 0, 0, 0), 0, []),
  (776, false, .iload_n 3, 1, 0, (0, 0, 0, 0), 0, []),
  (777, false, .iconst 1, 1, 0, (0, 0, 0, 0), 0, []),
  (778, false, .iadd, 1, 0, (0, 0, 0, 0), 0, []),
  (779, false, .iaload, 1, 0, (0, 0, 0, 0), 0, []),
  (780, false, .invokevirtual 97, 3, 1211, (162, 2, 0, 0), 0, [0, 42]),
  (783, false, .if_icmp .eq 120, 3, 0, (903, 0, 0, 0), 0, []),
  (786, false, .iconst 0, 1, 0, (0, 0, 0, 0), 0, []),
  (787, false, .ireturn, 1, 0, (0, 0, 0, 0), 0, []),
  (788, true, .aload_n 1, 1, 0, (0, 0, 0, 0), 0, []),
  (789, false, .aload_n 0, 1, 0, (0, 0, 0, 0), 0, []),
  (790, false, .iload_n 3, 1, 0, (0, 0, 0, 0), 0, []),
  (791, false, .iconst 1, 1, 0, (0, 0, 0, 0), 0, []),
  (792, false, .iadd, 1, 0, (0, 0, 0, 0), 0, []),
  (793, false, .iaload, 1, 0, (0, 0, 0, 0), 0, []),
  (794, false, .invokevirtual 98, 3, 765, (67, 2, 0, 0), 0, [0, 5]),
  (797, false, .aload_n 2, 1, 0, (0, 0, 0, 0), 0, []),
  (798, false, .aload_n 0, 1, 0, (0, 0, 0, 0), 0, []),
  (799, false, .iload_n 3, 1, 0, (0, 0, 0, 0), 0, []),
  (800, false, .iconst 1, 1, 0, (0, 0, 0, 0), 0, []),
  (801, false, .iadd, 1, 0, (0, 0, 0, 0), 0, []),
  (802, false, .iaload, 1, 0, (0, 0, 0, 0), 0, []),
  (803, false, .invokevirtual 101, 3, 1215, (163, 2, 0, 0), 0, [0, 42]),
  (806, false, .if_icmp .eq 97, 3, 0, (903, 0, 0, 0), 0, []),
  (809, false, .iconst 0, 1, 0, (0, 0, 0, 0), 0, []),
  (810, false, .ireturn, 1, 0, (0, 0, 0, 0), 0, []),
  (811, true, .aload_n 1, 1, 0, (0, 0, 0, 0), 0, [])]
def zk_l_law_14 : List zz_E := [(812, false, .aload_n 0, 1, 0, (0, 0, 0, 0), 0, []),
  (813, false, .iload_n 3, 1, 0, (0, 0, 0, 0), 0, []),
  (814, false, .iconst 1, 1, 0, (0, 0, 0, 0), 0, []),
  (815, false, .iadd, 1, 0, (0, 0, 0, 0), 0, []),
  (816, false, .iaload, 1, 0, (0, 0, 0, 0), 0, []),
  (817, false, .aload_n 0, 1, 0, (0, 0, 0, 0), 0, []),
  (818, false, .iload_n 3, 1, 0, (0, 0, 0, 0), 0, []),
  (819, false, .iconst 2, 1, 0, (0, 0, 0, 0), 0, []),
  (820, false, .iadd, 1, 0, (0, 0, 0, 0), 0, []),
  (821, false, .iaload, 1, 0, (0, 0, 0, 0), 0, []),
  (822, false, .invokevirtual 102, 3, 769, (68, 3, 0, 0), 0, [0, 0, 5]),
  (825, false, .aload_n 2, 1, 0, (0, 0, 0, 0), 0, []),
  (826, false, .aload_n 0, 1, 0, (0, 0, 0, 0), 0, []),
  (827, false, .iload_n 3, 1, 0, (0, 0, 0, 0), 0, []),
  (828, false, .iconst 1, 1, 0, (0, 0, 0, 0), 0, []),
  (829, false, .iadd, 1, 0, (0, 0, 0, 0), 0, []),
  (830, false, .iaload, 1, 0, (0, 0, 0, 0), 0, []),
  (831, false, .aload_n 0, 1, 0, (0, 0, 0, 0), 0, []),
  (832, false, .iload_n 3, 1, 0, (0, 0, 0, 0), 0, []),
  (833, false, .iconst 2, 1, 0, (0, 0, 0, 0), 0, []),
  (834, false, .iadd, 1, 0, (0, 0, 0, 0), 0, []),
  (835, false, .iaload, 1, 0, (0, 0, 0, 0), 0, []),
  (836, false, .invokevirtual 105, 3, 1219, (164, 3, 0, 0), 0, [0, 0, 42]),
  (839, false, .if_icmp .eq 64, 3, 0, (903, 0, 0, 0), 0, []),
  (842, false, .iconst 0, 1, 0, (0, 0, 0, 0), 0, []),
  (843, false, .ireturn, 1, 0, (0, 0, 0, 0), 0, []),
  (844, true, .aload_n 1, 1, 0, (0, 0, 0, 0), 0, []),
  (845, false, .aload_n 0, 1, 0, (0, 0, 0, 0), 0, []),
  (846, false, .iload_n 3, 1, 0, (0, 0, 0, 0), 0, []),
  (847, false, .iconst 1, 1, 0, (0, 0, 0, 0), 0, []),
  (848, false, .iadd, 1, 0, (0, 0, 0, 0), 0, []),
  (849, false, .iaload, 1, 0, (0, 0, 0, 0), 0, []),
  (850, false, .invokevirtual 106, 3, 776, (69, 2, 0, 0), 0, [0, 5]),
  (853, false, .aload_n 2, 1, 0, (0, 0, 0, 0), 0, []),
  (854, false, .aload_n 0, 1, 0, (0, 0, 0, 0), 0, []),
  (855, false, .iload_n 3, 1, 0, (0, 0, 0, 0), 0, []),
  (856, false, .iconst 1, 1, 0, (0, 0, 0, 0), 0, []),
  (857, false, .iadd, 1, 0, (0, 0, 0, 0), 0, []),
  (858, false, .iaload, 1, 0, (0, 0, 0, 0), 0, []),
  (859, false, .invokevirtual 109, 3, 1224, (165, 2, 0, 0), 0, [0, 42])]
def zk_l_law_15 : List zz_E := [(862, false, .if_icmp .eq 41, 3, 0, (903, 0, 0, 0), 0, []),
  (865, false, .iconst 0, 1, 0, (0, 0, 0, 0), 0, []),
  (866, false, .ireturn, 1, 0, (0, 0, 0, 0), 0, []),
  (867, true, .aload_n 1, 1, 0, (0, 0, 0, 0), 0, []),
  (868, false, .aload_n 0, 1, 0, (0, 0, 0, 0), 0, []),
  (869, false, .iload_n 3, 1, 0, (0, 0, 0, 0), 0, []),
  (870, false, .iconst 1, 1, 0, (0, 0, 0, 0), 0, []),
  (871, false, .iadd, 1, 0, (0, 0, 0, 0), 0, []),
  (872, false, .iaload, 1, 0, (0, 0, 0, 0), 0, []),
  (873, false, .invokevirtual 110, 3, 780, (70, 2, 0, 0), 0, [0, 5]),
  (876, false, .aload_n 2, 1, 0, (0, 0, 0, 0), 0, []),
  (877, false, .aload_n 0, 1, 0, (0, 0, 0, 0), 0, []),
  (878, false, .iload_n 3, 1, 0, (0, 0, 0, 0), 0, []),
  (879, false, .iconst 1, 1, 0, (0, 0, 0, 0), 0, []),
  (880, false, .iadd, 1, 0, (0, 0, 0, 0), 0, []),
  (881, false, .iaload, 1, 0, (0, 0, 0, 0), 0, []),
  (882, false, .invokevirtual 113, 3, 1228, (166, 2, 0, 0), 0, [0, 42]),
  (885, false, .if_icmp .eq 18, 3, 0, (903, 0, 0, 0), 0, []),
  (888, false, .iconst 0, 1, 0, (0, 0, 0, 0), 0, []),
  (889, false, .ireturn, 1, 0, (0, 0, 0, 0), 0, []),
  (890, false, .aload_n 1, 1, 0, (0, 0, 0, 0), 0, []),
  (891, false, .invokevirtual 114, 3, 784, (71, 1, 0, 0), 0, [5]),
  (894, false, .aload_n 2, 1, 0, (0, 0, 0, 0), 0, []),
  (895, false, .invokevirtual 117, 3, 1232, (167, 1, 0, 0), 0, [42]),
  (898, false, .if_icmp .eq 5, 3, 0, (903, 0, 0, 0), 0, []),
  (901, false, .iconst 0, 1, 0, (0, 0, 0, 0), 0, []),
  (902, false, .ireturn, 1, 0, (0, 0, 0, 0), 0, []),
  (903, false, .iinc 3 5, 3, 0, (0, 0, 0, 0), 0, []),
  (906, false, .goto (-888), 3, 0, (18, 0, 0, 0), 0, []),
  (909, false, .iconst 1, 1, 0, (0, 0, 0, 0), 0, []),
  (910, false, .ireturn, 1, 0, (0, 0, 0, 0), 0, [])]
def zk_l_law : List zz_E := zk_l_law_0 ++ (zk_l_law_1 ++ (zk_l_law_2 ++ (zk_l_law_3 ++ (zk_l_law_4 ++ (zk_l_law_5 ++ (zk_l_law_6 ++ (zk_l_law_7 ++ (zk_l_law_8 ++ (zk_l_law_9 ++ (zk_l_law_10 ++ (zk_l_law_11 ++ (zk_l_law_12 ++ (zk_l_law_13 ++ (zk_l_law_14 ++ (zk_l_law_15)))))))))))))))
theorem zc_l_law_0 : zk_l_law_0.all (zz_ck zz_inf zM_l_law) = true := by decide +kernel
theorem zc_l_law_1 : zk_l_law_1.all (zz_ck zz_inf zM_l_law) = true := by decide +kernel
theorem zc_l_law_2 : zk_l_law_2.all (zz_ck zz_inf zM_l_law) = true := by decide +kernel
theorem zc_l_law_3 : zk_l_law_3.all (zz_ck zz_inf zM_l_law) = true := by decide +kernel
theorem zc_l_law_4 : zk_l_law_4.all (zz_ck zz_inf zM_l_law) = true := by decide +kernel
theorem zc_l_law_5 : zk_l_law_5.all (zz_ck zz_inf zM_l_law) = true := by decide +kernel
theorem zc_l_law_6 : zk_l_law_6.all (zz_ck zz_inf zM_l_law) = true := by decide +kernel
theorem zc_l_law_7 : zk_l_law_7.all (zz_ck zz_inf zM_l_law) = true := by decide +kernel
theorem zc_l_law_8 : zk_l_law_8.all (zz_ck zz_inf zM_l_law) = true := by decide +kernel
theorem zc_l_law_9 : zk_l_law_9.all (zz_ck zz_inf zM_l_law) = true := by decide +kernel
theorem zc_l_law_10 : zk_l_law_10.all (zz_ck zz_inf zM_l_law) = true := by decide +kernel
theorem zc_l_law_11 : zk_l_law_11.all (zz_ck zz_inf zM_l_law) = true := by decide +kernel
theorem zc_l_law_12 : zk_l_law_12.all (zz_ck zz_inf zM_l_law) = true := by decide +kernel
theorem zc_l_law_13 : zk_l_law_13.all (zz_ck zz_inf zM_l_law) = true := by decide +kernel
theorem zc_l_law_14 : zk_l_law_14.all (zz_ck zz_inf zM_l_law) = true := by decide +kernel
theorem zc_l_law_15 : zk_l_law_15.all (zz_ck zz_inf zM_l_law) = true := by decide +kernel
theorem zc_l_law : zk_l_law.all (zz_ck zz_inf zM_l_law) = true ∧ zz_ch zk_l_law = true := ⟨by unfold zk_l_law; simp only [List.all_append, zc_l_law_0, zc_l_law_1, zc_l_law_2, zc_l_law_3, zc_l_law_4, zc_l_law_5, zc_l_law_6, zc_l_law_7, zc_l_law_8, zc_l_law_9, zc_l_law_10, zc_l_law_11, zc_l_law_12, zc_l_law_13, zc_l_law_14, zc_l_law_15, Bool.and_self], by decide +kernel⟩
noncomputable def l_law_867 (k18 : Int → zz_S → zz_R) (v3 : Int) (σ : zz_S) : zz_R := (if zz_b σ 0 1 (zz_r (v3 + 1)) then ((x_load (zz_h σ 0 1 (zz_r (v3 + 1))) σ).bind fun q1 => (if zz_b q1.2 0 1 (zz_r (v3 + 1)) then ((m_load (zz_h q1.2 0 1 (zz_r (v3 + 1))) q1.2).bind fun q2 => (if q1.1 = q2.1 then (k18 (zz_r (v3 + 5)) q2.2) else (some (0, q2.2)))) else none)) else none)
set_option maxRecDepth 100000 in
set_option maxHeartbeats 4000000 in
theorem ze_l_law_867 (k18 : Int → zz_S → zz_R) (v3 : Int) (σ : zz_S) : l_law_867 k18 v3 σ = zz_ev (zz_CE [(70, zw_x_load), (166, zw_m_load)]) (zz_KE [(18, [(0, 2, true), (1, 5, true), (2, 42, true), (3, 0, false)], zz_f1 k18)]) zk_l_law 0 true 0 2 400 true (zz_sk zk_l_law 867) [(0, 2, 1), (1, 5, 1), (2, 42, 1), (3, 0, v3)] [] σ := rfl
theorem zo_l_law_867 (k18 : Int → zz_S → zz_R) (hk18 : zz_okb zM_l_law 18 [(0, 2, true), (1, 5, true), (2, 42, true), (3, 0, false)] (zz_f1 k18)) : zz_okb zM_l_law 867 [(0, 2, true), (1, 5, true), (2, 42, true), (3, 0, false)] (zz_f1 (l_law_867 k18)) :=
  fun vs σ r τ h => by
    obtain ⟨v3, rfl, h⟩ := zz_f1_ok h
    exact zz_from zc_l_law (zz_occ zo_m_x_load (zz_occ zo_m_m_load zz_oc0)) (zz_olc hk18 zz_ol0) ((ze_l_law_867 k18 v3 σ).symm.trans h)
noncomputable def l_law_844 (k18 : Int → zz_S → zz_R) (v3 : Int) (σ : zz_S) : zz_R := (if zz_b σ 0 1 (zz_r (v3 + 1)) then ((x_idle (zz_h σ 0 1 (zz_r (v3 + 1))) σ).bind fun q1 => (if zz_b q1.2 0 1 (zz_r (v3 + 1)) then ((m_idle (zz_h q1.2 0 1 (zz_r (v3 + 1))) q1.2).bind fun q2 => (if q1.1 = q2.1 then (k18 (zz_r (v3 + 5)) q2.2) else (some (0, q2.2)))) else none)) else none)
set_option maxRecDepth 100000 in
set_option maxHeartbeats 4000000 in
theorem ze_l_law_844 (k18 : Int → zz_S → zz_R) (v3 : Int) (σ : zz_S) : l_law_844 k18 v3 σ = zz_ev (zz_CE [(69, zw_x_idle), (165, zw_m_idle)]) (zz_KE [(18, [(0, 2, true), (1, 5, true), (2, 42, true), (3, 0, false)], zz_f1 k18)]) zk_l_law 0 true 0 2 400 true (zz_sk zk_l_law 844) [(0, 2, 1), (1, 5, 1), (2, 42, 1), (3, 0, v3)] [] σ := rfl
theorem zo_l_law_844 (k18 : Int → zz_S → zz_R) (hk18 : zz_okb zM_l_law 18 [(0, 2, true), (1, 5, true), (2, 42, true), (3, 0, false)] (zz_f1 k18)) : zz_okb zM_l_law 844 [(0, 2, true), (1, 5, true), (2, 42, true), (3, 0, false)] (zz_f1 (l_law_844 k18)) :=
  fun vs σ r τ h => by
    obtain ⟨v3, rfl, h⟩ := zz_f1_ok h
    exact zz_from zc_l_law (zz_occ zo_m_x_idle (zz_occ zo_m_m_idle zz_oc0)) (zz_olc hk18 zz_ol0) ((ze_l_law_844 k18 v3 σ).symm.trans h)
noncomputable def l_law_811 (k18 : Int → zz_S → zz_R) (v3 : Int) (σ : zz_S) : zz_R := (if zz_b σ 0 1 (zz_r (v3 + 1)) then (if zz_b σ 0 1 (zz_r (v3 + 2)) then ((x_day (zz_h σ 0 1 (zz_r (v3 + 1))) (zz_h σ 0 1 (zz_r (v3 + 2))) σ).bind fun q1 => (if zz_b q1.2 0 1 (zz_r (v3 + 1)) then (if zz_b q1.2 0 1 (zz_r (v3 + 2)) then ((m_day (zz_h q1.2 0 1 (zz_r (v3 + 1))) (zz_h q1.2 0 1 (zz_r (v3 + 2))) q1.2).bind fun q2 => (if q1.1 = q2.1 then (k18 (zz_r (v3 + 5)) q2.2) else (some (0, q2.2)))) else none) else none)) else none) else none)
set_option maxRecDepth 100000 in
set_option maxHeartbeats 4000000 in
theorem ze_l_law_811 (k18 : Int → zz_S → zz_R) (v3 : Int) (σ : zz_S) : l_law_811 k18 v3 σ = zz_ev (zz_CE [(68, zw_x_day), (164, zw_m_day)]) (zz_KE [(18, [(0, 2, true), (1, 5, true), (2, 42, true), (3, 0, false)], zz_f1 k18)]) zk_l_law 0 true 0 2 400 true (zz_sk zk_l_law 811) [(0, 2, 1), (1, 5, 1), (2, 42, 1), (3, 0, v3)] [] σ := rfl
theorem zo_l_law_811 (k18 : Int → zz_S → zz_R) (hk18 : zz_okb zM_l_law 18 [(0, 2, true), (1, 5, true), (2, 42, true), (3, 0, false)] (zz_f1 k18)) : zz_okb zM_l_law 811 [(0, 2, true), (1, 5, true), (2, 42, true), (3, 0, false)] (zz_f1 (l_law_811 k18)) :=
  fun vs σ r τ h => by
    obtain ⟨v3, rfl, h⟩ := zz_f1_ok h
    exact zz_from zc_l_law (zz_occ zo_m_x_day (zz_occ zo_m_m_day zz_oc0)) (zz_olc hk18 zz_ol0) ((ze_l_law_811 k18 v3 σ).symm.trans h)
noncomputable def l_law_788 (k18 : Int → zz_S → zz_R) (v3 : Int) (σ : zz_S) : zz_R := (if zz_b σ 0 1 (zz_r (v3 + 1)) then ((x_cell (zz_h σ 0 1 (zz_r (v3 + 1))) σ).bind fun q1 => (if zz_b q1.2 0 1 (zz_r (v3 + 1)) then ((m_cell (zz_h q1.2 0 1 (zz_r (v3 + 1))) q1.2).bind fun q2 => (if q1.1 = q2.1 then (k18 (zz_r (v3 + 5)) q2.2) else (some (0, q2.2)))) else none)) else none)
set_option maxRecDepth 100000 in
set_option maxHeartbeats 4000000 in
theorem ze_l_law_788 (k18 : Int → zz_S → zz_R) (v3 : Int) (σ : zz_S) : l_law_788 k18 v3 σ = zz_ev (zz_CE [(67, zw_x_cell), (163, zw_m_cell)]) (zz_KE [(18, [(0, 2, true), (1, 5, true), (2, 42, true), (3, 0, false)], zz_f1 k18)]) zk_l_law 0 true 0 2 400 true (zz_sk zk_l_law 788) [(0, 2, 1), (1, 5, 1), (2, 42, 1), (3, 0, v3)] [] σ := rfl
theorem zo_l_law_788 (k18 : Int → zz_S → zz_R) (hk18 : zz_okb zM_l_law 18 [(0, 2, true), (1, 5, true), (2, 42, true), (3, 0, false)] (zz_f1 k18)) : zz_okb zM_l_law 788 [(0, 2, true), (1, 5, true), (2, 42, true), (3, 0, false)] (zz_f1 (l_law_788 k18)) :=
  fun vs σ r τ h => by
    obtain ⟨v3, rfl, h⟩ := zz_f1_ok h
    exact zz_from zc_l_law (zz_occ zo_m_x_cell (zz_occ zo_m_m_cell zz_oc0)) (zz_olc hk18 zz_ol0) ((ze_l_law_788 k18 v3 σ).symm.trans h)
noncomputable def l_law_765 (k18 : Int → zz_S → zz_R) (v3 : Int) (σ : zz_S) : zz_R := (if zz_b σ 0 1 (zz_r (v3 + 1)) then ((x_count (zz_h σ 0 1 (zz_r (v3 + 1))) σ).bind fun q1 => (if zz_b q1.2 0 1 (zz_r (v3 + 1)) then ((m_count (zz_h q1.2 0 1 (zz_r (v3 + 1))) q1.2).bind fun q2 => (if q1.1 = q2.1 then (k18 (zz_r (v3 + 5)) q2.2) else (some (0, q2.2)))) else none)) else none)
set_option maxRecDepth 100000 in
set_option maxHeartbeats 4000000 in
theorem ze_l_law_765 (k18 : Int → zz_S → zz_R) (v3 : Int) (σ : zz_S) : l_law_765 k18 v3 σ = zz_ev (zz_CE [(66, zw_x_count), (162, zw_m_count)]) (zz_KE [(18, [(0, 2, true), (1, 5, true), (2, 42, true), (3, 0, false)], zz_f1 k18)]) zk_l_law 0 true 0 2 400 true (zz_sk zk_l_law 765) [(0, 2, 1), (1, 5, 1), (2, 42, 1), (3, 0, v3)] [] σ := rfl
theorem zo_l_law_765 (k18 : Int → zz_S → zz_R) (hk18 : zz_okb zM_l_law 18 [(0, 2, true), (1, 5, true), (2, 42, true), (3, 0, false)] (zz_f1 k18)) : zz_okb zM_l_law 765 [(0, 2, true), (1, 5, true), (2, 42, true), (3, 0, false)] (zz_f1 (l_law_765 k18)) :=
  fun vs σ r τ h => by
    obtain ⟨v3, rfl, h⟩ := zz_f1_ok h
    exact zz_from zc_l_law (zz_occ zo_m_x_count (zz_occ zo_m_m_count zz_oc0)) (zz_olc hk18 zz_ol0) ((ze_l_law_765 k18 v3 σ).symm.trans h)
noncomputable def l_law_732 (k18 : Int → zz_S → zz_R) (v3 : Int) (σ : zz_S) : zz_R := (if zz_b σ 0 1 (zz_r (v3 + 1)) then (if zz_b σ 0 1 (zz_r (v3 + 2)) then ((x_book (zz_h σ 0 1 (zz_r (v3 + 1))) (zz_h σ 0 1 (zz_r (v3 + 2))) σ).bind fun q1 => (if zz_b q1.2 0 1 (zz_r (v3 + 1)) then (if zz_b q1.2 0 1 (zz_r (v3 + 2)) then ((m_book (zz_h q1.2 0 1 (zz_r (v3 + 1))) (zz_h q1.2 0 1 (zz_r (v3 + 2))) q1.2).bind fun q2 => (if q1.1 = q2.1 then (k18 (zz_r (v3 + 5)) q2.2) else (some (0, q2.2)))) else none) else none)) else none) else none)
set_option maxRecDepth 100000 in
set_option maxHeartbeats 4000000 in
theorem ze_l_law_732 (k18 : Int → zz_S → zz_R) (v3 : Int) (σ : zz_S) : l_law_732 k18 v3 σ = zz_ev (zz_CE [(65, zw_x_book), (161, zw_m_book)]) (zz_KE [(18, [(0, 2, true), (1, 5, true), (2, 42, true), (3, 0, false)], zz_f1 k18)]) zk_l_law 0 true 0 2 400 true (zz_sk zk_l_law 732) [(0, 2, 1), (1, 5, 1), (2, 42, 1), (3, 0, v3)] [] σ := rfl
theorem zo_l_law_732 (k18 : Int → zz_S → zz_R) (hk18 : zz_okb zM_l_law 18 [(0, 2, true), (1, 5, true), (2, 42, true), (3, 0, false)] (zz_f1 k18)) : zz_okb zM_l_law 732 [(0, 2, true), (1, 5, true), (2, 42, true), (3, 0, false)] (zz_f1 (l_law_732 k18)) :=
  fun vs σ r τ h => by
    obtain ⟨v3, rfl, h⟩ := zz_f1_ok h
    exact zz_from zc_l_law (zz_occ zo_m_x_book (zz_occ zo_m_m_book zz_oc0)) (zz_olc hk18 zz_ol0) ((ze_l_law_732 k18 v3 σ).symm.trans h)
noncomputable def l_law_699 (k18 : Int → zz_S → zz_R) (v3 : Int) (σ : zz_S) : zz_R := (if zz_b σ 0 1 (zz_r (v3 + 1)) then (if zz_b σ 0 1 (zz_r (v3 + 2)) then ((x_waiting (zz_h σ 0 1 (zz_r (v3 + 1))) (zz_h σ 0 1 (zz_r (v3 + 2))) σ).bind fun q1 => (if zz_b q1.2 0 1 (zz_r (v3 + 1)) then (if zz_b q1.2 0 1 (zz_r (v3 + 2)) then ((m_waiting (zz_h q1.2 0 1 (zz_r (v3 + 1))) (zz_h q1.2 0 1 (zz_r (v3 + 2))) q1.2).bind fun q2 => (if q1.1 = q2.1 then (k18 (zz_r (v3 + 5)) q2.2) else (some (0, q2.2)))) else none) else none)) else none) else none)
set_option maxRecDepth 100000 in
set_option maxHeartbeats 4000000 in
theorem ze_l_law_699 (k18 : Int → zz_S → zz_R) (v3 : Int) (σ : zz_S) : l_law_699 k18 v3 σ = zz_ev (zz_CE [(64, zw_x_waiting), (160, zw_m_waiting)]) (zz_KE [(18, [(0, 2, true), (1, 5, true), (2, 42, true), (3, 0, false)], zz_f1 k18)]) zk_l_law 0 true 0 2 400 true (zz_sk zk_l_law 699) [(0, 2, 1), (1, 5, 1), (2, 42, 1), (3, 0, v3)] [] σ := rfl
theorem zo_l_law_699 (k18 : Int → zz_S → zz_R) (hk18 : zz_okb zM_l_law 18 [(0, 2, true), (1, 5, true), (2, 42, true), (3, 0, false)] (zz_f1 k18)) : zz_okb zM_l_law 699 [(0, 2, true), (1, 5, true), (2, 42, true), (3, 0, false)] (zz_f1 (l_law_699 k18)) :=
  fun vs σ r τ h => by
    obtain ⟨v3, rfl, h⟩ := zz_f1_ok h
    exact zz_from zc_l_law (zz_occ zo_m_x_waiting (zz_occ zo_m_m_waiting zz_oc0)) (zz_olc hk18 zz_ol0) ((ze_l_law_699 k18 v3 σ).symm.trans h)
noncomputable def l_law_666 (k18 : Int → zz_S → zz_R) (v3 : Int) (σ : zz_S) : zz_R := (if zz_b σ 0 1 (zz_r (v3 + 1)) then (if zz_b σ 0 1 (zz_r (v3 + 2)) then ((x_next (zz_h σ 0 1 (zz_r (v3 + 1))) (zz_h σ 0 1 (zz_r (v3 + 2))) σ).bind fun q1 => (if zz_b q1.2 0 1 (zz_r (v3 + 1)) then (if zz_b q1.2 0 1 (zz_r (v3 + 2)) then ((m_next (zz_h q1.2 0 1 (zz_r (v3 + 1))) (zz_h q1.2 0 1 (zz_r (v3 + 2))) q1.2).bind fun q2 => (if q1.1 = q2.1 then (k18 (zz_r (v3 + 5)) q2.2) else (some (0, q2.2)))) else none) else none)) else none) else none)
set_option maxRecDepth 100000 in
set_option maxHeartbeats 4000000 in
theorem ze_l_law_666 (k18 : Int → zz_S → zz_R) (v3 : Int) (σ : zz_S) : l_law_666 k18 v3 σ = zz_ev (zz_CE [(61, zw_x_next), (159, zw_m_next)]) (zz_KE [(18, [(0, 2, true), (1, 5, true), (2, 42, true), (3, 0, false)], zz_f1 k18)]) zk_l_law 0 true 0 2 400 true (zz_sk zk_l_law 666) [(0, 2, 1), (1, 5, 1), (2, 42, 1), (3, 0, v3)] [] σ := rfl
theorem zo_l_law_666 (k18 : Int → zz_S → zz_R) (hk18 : zz_okb zM_l_law 18 [(0, 2, true), (1, 5, true), (2, 42, true), (3, 0, false)] (zz_f1 k18)) : zz_okb zM_l_law 666 [(0, 2, true), (1, 5, true), (2, 42, true), (3, 0, false)] (zz_f1 (l_law_666 k18)) :=
  fun vs σ r τ h => by
    obtain ⟨v3, rfl, h⟩ := zz_f1_ok h
    exact zz_from zc_l_law (zz_occ zo_m_x_next (zz_occ zo_m_m_next zz_oc0)) (zz_olc hk18 zz_ol0) ((ze_l_law_666 k18 v3 σ).symm.trans h)
noncomputable def l_law_633 (k18 : Int → zz_S → zz_R) (v3 : Int) (σ : zz_S) : zz_R := (if zz_b σ 0 1 (zz_r (v3 + 1)) then (if zz_b σ 0 1 (zz_r (v3 + 2)) then ((x_of (zz_h σ 0 1 (zz_r (v3 + 1))) (zz_h σ 0 1 (zz_r (v3 + 2))) σ).bind fun q1 => (if zz_b q1.2 0 1 (zz_r (v3 + 1)) then (if zz_b q1.2 0 1 (zz_r (v3 + 2)) then ((m_of (zz_h q1.2 0 1 (zz_r (v3 + 1))) (zz_h q1.2 0 1 (zz_r (v3 + 2))) q1.2).bind fun q2 => (if q1.1 = q2.1 then (k18 (zz_r (v3 + 5)) q2.2) else (some (0, q2.2)))) else none) else none)) else none) else none)
set_option maxRecDepth 100000 in
set_option maxHeartbeats 4000000 in
theorem ze_l_law_633 (k18 : Int → zz_S → zz_R) (v3 : Int) (σ : zz_S) : l_law_633 k18 v3 σ = zz_ev (zz_CE [(59, zw_x_of), (158, zw_m_of)]) (zz_KE [(18, [(0, 2, true), (1, 5, true), (2, 42, true), (3, 0, false)], zz_f1 k18)]) zk_l_law 0 true 0 2 400 true (zz_sk zk_l_law 633) [(0, 2, 1), (1, 5, 1), (2, 42, 1), (3, 0, v3)] [] σ := rfl
theorem zo_l_law_633 (k18 : Int → zz_S → zz_R) (hk18 : zz_okb zM_l_law 18 [(0, 2, true), (1, 5, true), (2, 42, true), (3, 0, false)] (zz_f1 k18)) : zz_okb zM_l_law 633 [(0, 2, true), (1, 5, true), (2, 42, true), (3, 0, false)] (zz_f1 (l_law_633 k18)) :=
  fun vs σ r τ h => by
    obtain ⟨v3, rfl, h⟩ := zz_f1_ok h
    exact zz_from zc_l_law (zz_occ zo_m_x_of (zz_occ zo_m_m_of zz_oc0)) (zz_olc hk18 zz_ol0) ((ze_l_law_633 k18 v3 σ).symm.trans h)
noncomputable def l_law_600 (k18 : Int → zz_S → zz_R) (v3 : Int) (σ : zz_S) : zz_R := (if zz_b σ 0 1 (zz_r (v3 + 1)) then (if zz_b σ 0 1 (zz_r (v3 + 2)) then ((x_run (zz_h σ 0 1 (zz_r (v3 + 1))) (zz_h σ 0 1 (zz_r (v3 + 2))) σ).bind fun q1 => (if zz_b q1.2 0 1 (zz_r (v3 + 1)) then (if zz_b q1.2 0 1 (zz_r (v3 + 2)) then ((m_run (zz_h q1.2 0 1 (zz_r (v3 + 1))) (zz_h q1.2 0 1 (zz_r (v3 + 2))) q1.2).bind fun q2 => (if q1.1 = q2.1 then (k18 (zz_r (v3 + 5)) q2.2) else (some (0, q2.2)))) else none) else none)) else none) else none)
set_option maxRecDepth 100000 in
set_option maxHeartbeats 4000000 in
theorem ze_l_law_600 (k18 : Int → zz_S → zz_R) (v3 : Int) (σ : zz_S) : l_law_600 k18 v3 σ = zz_ev (zz_CE [(58, zw_x_run), (157, zw_m_run)]) (zz_KE [(18, [(0, 2, true), (1, 5, true), (2, 42, true), (3, 0, false)], zz_f1 k18)]) zk_l_law 0 true 0 2 400 true (zz_sk zk_l_law 600) [(0, 2, 1), (1, 5, 1), (2, 42, 1), (3, 0, v3)] [] σ := rfl
theorem zo_l_law_600 (k18 : Int → zz_S → zz_R) (hk18 : zz_okb zM_l_law 18 [(0, 2, true), (1, 5, true), (2, 42, true), (3, 0, false)] (zz_f1 k18)) : zz_okb zM_l_law 600 [(0, 2, true), (1, 5, true), (2, 42, true), (3, 0, false)] (zz_f1 (l_law_600 k18)) :=
  fun vs σ r τ h => by
    obtain ⟨v3, rfl, h⟩ := zz_f1_ok h
    exact zz_from zc_l_law (zz_occ zo_m_x_run (zz_occ zo_m_m_run zz_oc0)) (zz_olc hk18 zz_ol0) ((ze_l_law_600 k18 v3 σ).symm.trans h)
noncomputable def l_law_564 (k18 : Int → zz_S → zz_R) (v3 : Int) (σ : zz_S) : zz_R := (if zz_b σ 0 1 (zz_r (v3 + 1)) then ((x_stop (zz_h σ 0 1 (zz_r (v3 + 1))) σ).bind fun q1 => (if zz_b q1.2 0 1 (zz_r (v3 + 1)) then ((m_stop (zz_h q1.2 0 1 (zz_r (v3 + 1))) q1.2).bind fun q2 => (if q1.1 = q2.1 then (k18 (zz_r (v3 + 5)) q2.2) else (some (0, q2.2)))) else none)) else none)
set_option maxRecDepth 100000 in
set_option maxHeartbeats 4000000 in
theorem ze_l_law_564 (k18 : Int → zz_S → zz_R) (v3 : Int) (σ : zz_S) : l_law_564 k18 v3 σ = zz_ev (zz_CE [(55, zw_x_stop), (155, zw_m_stop)]) (zz_KE [(18, [(0, 2, true), (1, 5, true), (2, 42, true), (3, 0, false)], zz_f1 k18)]) zk_l_law 0 true 0 2 400 true (zz_sk zk_l_law 564) [(0, 2, 1), (1, 5, 1), (2, 42, 1), (3, 0, v3)] [] σ := rfl
theorem zo_l_law_564 (k18 : Int → zz_S → zz_R) (hk18 : zz_okb zM_l_law 18 [(0, 2, true), (1, 5, true), (2, 42, true), (3, 0, false)] (zz_f1 k18)) : zz_okb zM_l_law 564 [(0, 2, true), (1, 5, true), (2, 42, true), (3, 0, false)] (zz_f1 (l_law_564 k18)) :=
  fun vs σ r τ h => by
    obtain ⟨v3, rfl, h⟩ := zz_f1_ok h
    exact zz_from zc_l_law (zz_occ zo_m_x_stop (zz_occ zo_m_m_stop zz_oc0)) (zz_olc hk18 zz_ol0) ((ze_l_law_564 k18 v3 σ).symm.trans h)
noncomputable def l_law_531 (k18 : Int → zz_S → zz_R) (v3 : Int) (σ : zz_S) : zz_R := (if zz_b σ 0 1 (zz_r (v3 + 1)) then (if zz_b σ 0 1 (zz_r (v3 + 2)) then ((x_cancel (zz_h σ 0 1 (zz_r (v3 + 1))) (zz_h σ 0 1 (zz_r (v3 + 2))) σ).bind fun q1 => (if zz_b q1.2 0 1 (zz_r (v3 + 1)) then (if zz_b q1.2 0 1 (zz_r (v3 + 2)) then ((m_cancel (zz_h q1.2 0 1 (zz_r (v3 + 1))) (zz_h q1.2 0 1 (zz_r (v3 + 2))) q1.2).bind fun q2 => (if q1.1 = q2.1 then (k18 (zz_r (v3 + 5)) q2.2) else (some (0, q2.2)))) else none) else none)) else none) else none)
set_option maxRecDepth 100000 in
set_option maxHeartbeats 4000000 in
theorem ze_l_law_531 (k18 : Int → zz_S → zz_R) (v3 : Int) (σ : zz_S) : l_law_531 k18 v3 σ = zz_ev (zz_CE [(51, zw_x_cancel), (154, zw_m_cancel)]) (zz_KE [(18, [(0, 2, true), (1, 5, true), (2, 42, true), (3, 0, false)], zz_f1 k18)]) zk_l_law 0 true 0 2 400 true (zz_sk zk_l_law 531) [(0, 2, 1), (1, 5, 1), (2, 42, 1), (3, 0, v3)] [] σ := rfl
theorem zo_l_law_531 (k18 : Int → zz_S → zz_R) (hk18 : zz_okb zM_l_law 18 [(0, 2, true), (1, 5, true), (2, 42, true), (3, 0, false)] (zz_f1 k18)) : zz_okb zM_l_law 531 [(0, 2, true), (1, 5, true), (2, 42, true), (3, 0, false)] (zz_f1 (l_law_531 k18)) :=
  fun vs σ r τ h => by
    obtain ⟨v3, rfl, h⟩ := zz_f1_ok h
    exact zz_from zc_l_law (zz_occ zo_m_x_cancel (zz_occ zo_m_m_cancel zz_oc0)) (zz_olc hk18 zz_ol0) ((ze_l_law_531 k18 v3 σ).symm.trans h)
noncomputable def l_law_508 (k18 : Int → zz_S → zz_R) (v3 : Int) (σ : zz_S) : zz_R := (if zz_b σ 0 1 (zz_r (v3 + 1)) then ((x_jump (zz_h σ 0 1 (zz_r (v3 + 1))) σ).bind fun q1 => (if zz_b q1.2 0 1 (zz_r (v3 + 1)) then ((m_jump (zz_h q1.2 0 1 (zz_r (v3 + 1))) q1.2).bind fun q2 => (if q1.1 = q2.1 then (k18 (zz_r (v3 + 5)) q2.2) else (some (0, q2.2)))) else none)) else none)
set_option maxRecDepth 100000 in
set_option maxHeartbeats 4000000 in
theorem ze_l_law_508 (k18 : Int → zz_S → zz_R) (v3 : Int) (σ : zz_S) : l_law_508 k18 v3 σ = zz_ev (zz_CE [(48, zw_x_jump), (153, zw_m_jump)]) (zz_KE [(18, [(0, 2, true), (1, 5, true), (2, 42, true), (3, 0, false)], zz_f1 k18)]) zk_l_law 0 true 0 2 400 true (zz_sk zk_l_law 508) [(0, 2, 1), (1, 5, 1), (2, 42, 1), (3, 0, v3)] [] σ := rfl
theorem zo_l_law_508 (k18 : Int → zz_S → zz_R) (hk18 : zz_okb zM_l_law 18 [(0, 2, true), (1, 5, true), (2, 42, true), (3, 0, false)] (zz_f1 k18)) : zz_okb zM_l_law 508 [(0, 2, true), (1, 5, true), (2, 42, true), (3, 0, false)] (zz_f1 (l_law_508 k18)) :=
  fun vs σ r τ h => by
    obtain ⟨v3, rfl, h⟩ := zz_f1_ok h
    exact zz_from zc_l_law (zz_occ zo_m_x_jump (zz_occ zo_m_m_jump zz_oc0)) (zz_olc hk18 zz_ol0) ((ze_l_law_508 k18 v3 σ).symm.trans h)
noncomputable def l_law_485 (k18 : Int → zz_S → zz_R) (v3 : Int) (σ : zz_S) : zz_R := (if zz_b σ 0 1 (zz_r (v3 + 1)) then ((x_clock (zz_h σ 0 1 (zz_r (v3 + 1))) σ).bind fun q1 => (if zz_b q1.2 0 1 (zz_r (v3 + 1)) then ((m_clock (zz_h q1.2 0 1 (zz_r (v3 + 1))) q1.2).bind fun q2 => (if q1.1 = q2.1 then (k18 (zz_r (v3 + 5)) q2.2) else (some (0, q2.2)))) else none)) else none)
set_option maxRecDepth 100000 in
set_option maxHeartbeats 4000000 in
theorem ze_l_law_485 (k18 : Int → zz_S → zz_R) (v3 : Int) (σ : zz_S) : l_law_485 k18 v3 σ = zz_ev (zz_CE [(24, zw_x_clock), (141, zw_m_clock)]) (zz_KE [(18, [(0, 2, true), (1, 5, true), (2, 42, true), (3, 0, false)], zz_f1 k18)]) zk_l_law 0 true 0 2 400 true (zz_sk zk_l_law 485) [(0, 2, 1), (1, 5, 1), (2, 42, 1), (3, 0, v3)] [] σ := rfl
theorem zo_l_law_485 (k18 : Int → zz_S → zz_R) (hk18 : zz_okb zM_l_law 18 [(0, 2, true), (1, 5, true), (2, 42, true), (3, 0, false)] (zz_f1 k18)) : zz_okb zM_l_law 485 [(0, 2, true), (1, 5, true), (2, 42, true), (3, 0, false)] (zz_f1 (l_law_485 k18)) :=
  fun vs σ r τ h => by
    obtain ⟨v3, rfl, h⟩ := zz_f1_ok h
    exact zz_from zc_l_law (zz_occ zo_m_x_clock (zz_occ zo_m_m_clock zz_oc0)) (zz_olc hk18 zz_ol0) ((ze_l_law_485 k18 v3 σ).symm.trans h)
noncomputable def l_law_429 (k18 : Int → zz_S → zz_R) (v3 : Int) (σ : zz_S) : zz_R := (if zz_b σ 0 1 (zz_r (v3 + 1)) then (if zz_b σ 0 1 (zz_r (v3 + 2)) then (if zz_b σ 0 1 (zz_r (v3 + 3)) then ((x_plan (zz_h σ 0 1 (zz_r (v3 + 1))) (zz_h σ 0 1 (zz_r (v3 + 2))) (zz_h σ 0 1 (zz_r (v3 + 3))) σ).bind fun q1 => (if zz_b q1.2 0 1 (zz_r (v3 + 1)) then (if zz_b q1.2 0 1 (zz_r (v3 + 2)) then (if zz_b q1.2 0 1 (zz_r (v3 + 3)) then ((m_plan (zz_h q1.2 0 1 (zz_r (v3 + 1))) (zz_h q1.2 0 1 (zz_r (v3 + 2))) (zz_h q1.2 0 1 (zz_r (v3 + 3))) q1.2).bind fun q2 => (if q1.1 = q2.1 then (k18 (zz_r (v3 + 5)) q2.2) else (some (0, q2.2)))) else none) else none) else none)) else none) else none) else none)
set_option maxRecDepth 100000 in
set_option maxHeartbeats 4000000 in
theorem ze_l_law_429 (k18 : Int → zz_S → zz_R) (v3 : Int) (σ : zz_S) : l_law_429 k18 v3 σ = zz_ev (zz_CE [(22, zw_x_plan), (151, zw_m_plan)]) (zz_KE [(18, [(0, 2, true), (1, 5, true), (2, 42, true), (3, 0, false)], zz_f1 k18)]) zk_l_law 0 true 0 2 400 true (zz_sk zk_l_law 429) [(0, 2, 1), (1, 5, 1), (2, 42, 1), (3, 0, v3)] [] σ := rfl
theorem zo_l_law_429 (k18 : Int → zz_S → zz_R) (hk18 : zz_okb zM_l_law 18 [(0, 2, true), (1, 5, true), (2, 42, true), (3, 0, false)] (zz_f1 k18)) : zz_okb zM_l_law 429 [(0, 2, true), (1, 5, true), (2, 42, true), (3, 0, false)] (zz_f1 (l_law_429 k18)) :=
  fun vs σ r τ h => by
    obtain ⟨v3, rfl, h⟩ := zz_f1_ok h
    exact zz_from zc_l_law (zz_occ zo_m_x_plan (zz_occ zo_m_m_plan zz_oc0)) (zz_olc hk18 zz_ol0) ((ze_l_law_429 k18 v3 σ).symm.trans h)
noncomputable def l_law_386 (k18 : Int → zz_S → zz_R) (v3 : Int) (σ : zz_S) : zz_R := (if zz_b σ 0 1 (zz_r (v3 + 1)) then (if zz_b σ 0 1 (zz_r (v3 + 2)) then (if zz_b σ 0 1 (zz_r (v3 + 3)) then ((x_after (zz_h σ 0 1 (zz_r (v3 + 1))) (zz_h σ 0 1 (zz_r (v3 + 2))) (zz_h σ 0 1 (zz_r (v3 + 3))) σ).bind fun q1 => (if zz_b q1.2 0 1 (zz_r (v3 + 1)) then (if zz_b q1.2 0 1 (zz_r (v3 + 2)) then (if zz_b q1.2 0 1 (zz_r (v3 + 3)) then ((m_after (zz_h q1.2 0 1 (zz_r (v3 + 1))) (zz_h q1.2 0 1 (zz_r (v3 + 2))) (zz_h q1.2 0 1 (zz_r (v3 + 3))) q1.2).bind fun q2 => (if q1.1 = q2.1 then (k18 (zz_r (v3 + 5)) q2.2) else (some (0, q2.2)))) else none) else none) else none)) else none) else none) else none)
set_option maxRecDepth 100000 in
set_option maxHeartbeats 4000000 in
theorem ze_l_law_386 (k18 : Int → zz_S → zz_R) (v3 : Int) (σ : zz_S) : l_law_386 k18 v3 σ = zz_ev (zz_CE [(19, zw_x_after), (150, zw_m_after)]) (zz_KE [(18, [(0, 2, true), (1, 5, true), (2, 42, true), (3, 0, false)], zz_f1 k18)]) zk_l_law 0 true 0 2 400 true (zz_sk zk_l_law 386) [(0, 2, 1), (1, 5, 1), (2, 42, 1), (3, 0, v3)] [] σ := rfl
theorem zo_l_law_386 (k18 : Int → zz_S → zz_R) (hk18 : zz_okb zM_l_law 18 [(0, 2, true), (1, 5, true), (2, 42, true), (3, 0, false)] (zz_f1 k18)) : zz_okb zM_l_law 386 [(0, 2, true), (1, 5, true), (2, 42, true), (3, 0, false)] (zz_f1 (l_law_386 k18)) :=
  fun vs σ r τ h => by
    obtain ⟨v3, rfl, h⟩ := zz_f1_ok h
    exact zz_from zc_l_law (zz_occ zo_m_x_after (zz_occ zo_m_m_after zz_oc0)) (zz_olc hk18 zz_ol0) ((ze_l_law_386 k18 v3 σ).symm.trans h)
noncomputable def l_law_333 (k18 : Int → zz_S → zz_R) (v3 : Int) (σ : zz_S) : zz_R := (if zz_b σ 0 1 (zz_r (v3 + 1)) then (if zz_b σ 0 1 (zz_r (v3 + 2)) then (if zz_b σ 0 1 (zz_r (v3 + 3)) then (if zz_b σ 0 1 (zz_r (v3 + 4)) then ((x_body (zz_h σ 0 1 (zz_r (v3 + 1))) (zz_h σ 0 1 (zz_r (v3 + 2))) (zz_h σ 0 1 (zz_r (v3 + 3))) (zz_h σ 0 1 (zz_r (v3 + 4))) σ).bind fun q1 => (if zz_b q1.2 0 1 (zz_r (v3 + 1)) then (if zz_b q1.2 0 1 (zz_r (v3 + 2)) then (if zz_b q1.2 0 1 (zz_r (v3 + 3)) then (if zz_b q1.2 0 1 (zz_r (v3 + 4)) then ((m_body (zz_h q1.2 0 1 (zz_r (v3 + 1))) (zz_h q1.2 0 1 (zz_r (v3 + 2))) (zz_h q1.2 0 1 (zz_r (v3 + 3))) (zz_h q1.2 0 1 (zz_r (v3 + 4))) q1.2).bind fun q2 => (if q1.1 = q2.1 then (k18 (zz_r (v3 + 5)) q2.2) else (some (0, q2.2)))) else none) else none) else none) else none)) else none) else none) else none) else none)
set_option maxRecDepth 100000 in
set_option maxHeartbeats 4000000 in
theorem ze_l_law_333 (k18 : Int → zz_S → zz_R) (v3 : Int) (σ : zz_S) : l_law_333 k18 v3 σ = zz_ev (zz_CE [(18, zw_x_body), (148, zw_m_body)]) (zz_KE [(18, [(0, 2, true), (1, 5, true), (2, 42, true), (3, 0, false)], zz_f1 k18)]) zk_l_law 0 true 0 2 400 true (zz_sk zk_l_law 333) [(0, 2, 1), (1, 5, 1), (2, 42, 1), (3, 0, v3)] [] σ := rfl
theorem zo_l_law_333 (k18 : Int → zz_S → zz_R) (hk18 : zz_okb zM_l_law 18 [(0, 2, true), (1, 5, true), (2, 42, true), (3, 0, false)] (zz_f1 k18)) : zz_okb zM_l_law 333 [(0, 2, true), (1, 5, true), (2, 42, true), (3, 0, false)] (zz_f1 (l_law_333 k18)) :=
  fun vs σ r τ h => by
    obtain ⟨v3, rfl, h⟩ := zz_f1_ok h
    exact zz_from zc_l_law (zz_occ zo_m_x_body (zz_occ zo_m_m_body zz_oc0)) (zz_olc hk18 zz_ol0) ((ze_l_law_333 k18 v3 σ).symm.trans h)
noncomputable def l_law_280 (k18 : Int → zz_S → zz_R) (v3 : Int) (σ : zz_S) : zz_R := (if zz_b σ 0 1 (zz_r (v3 + 1)) then (if zz_b σ 0 1 (zz_r (v3 + 2)) then (if zz_b σ 0 1 (zz_r (v3 + 3)) then (if zz_b σ 0 1 (zz_r (v3 + 4)) then ((x_calendar (zz_h σ 0 1 (zz_r (v3 + 1))) (zz_h σ 0 1 (zz_r (v3 + 2))) (zz_h σ 0 1 (zz_r (v3 + 3))) (zz_h σ 0 1 (zz_r (v3 + 4))) σ).bind fun q1 => (if zz_b q1.2 0 1 (zz_r (v3 + 1)) then (if zz_b q1.2 0 1 (zz_r (v3 + 2)) then (if zz_b q1.2 0 1 (zz_r (v3 + 3)) then (if zz_b q1.2 0 1 (zz_r (v3 + 4)) then ((m_calendar (zz_h q1.2 0 1 (zz_r (v3 + 1))) (zz_h q1.2 0 1 (zz_r (v3 + 2))) (zz_h q1.2 0 1 (zz_r (v3 + 3))) (zz_h q1.2 0 1 (zz_r (v3 + 4))) q1.2).bind fun q2 => (if q1.1 = q2.1 then (k18 (zz_r (v3 + 5)) q2.2) else (some (0, q2.2)))) else none) else none) else none) else none)) else none) else none) else none) else none)
set_option maxRecDepth 100000 in
set_option maxHeartbeats 4000000 in
theorem ze_l_law_280 (k18 : Int → zz_S → zz_R) (v3 : Int) (σ : zz_S) : l_law_280 k18 v3 σ = zz_ev (zz_CE [(17, zw_x_calendar), (147, zw_m_calendar)]) (zz_KE [(18, [(0, 2, true), (1, 5, true), (2, 42, true), (3, 0, false)], zz_f1 k18)]) zk_l_law 0 true 0 2 400 true (zz_sk zk_l_law 280) [(0, 2, 1), (1, 5, 1), (2, 42, 1), (3, 0, v3)] [] σ := rfl
theorem zo_l_law_280 (k18 : Int → zz_S → zz_R) (hk18 : zz_okb zM_l_law 18 [(0, 2, true), (1, 5, true), (2, 42, true), (3, 0, false)] (zz_f1 k18)) : zz_okb zM_l_law 280 [(0, 2, true), (1, 5, true), (2, 42, true), (3, 0, false)] (zz_f1 (l_law_280 k18)) :=
  fun vs σ r τ h => by
    obtain ⟨v3, rfl, h⟩ := zz_f1_ok h
    exact zz_from zc_l_law (zz_occ zo_m_x_calendar (zz_occ zo_m_m_calendar zz_oc0)) (zz_olc hk18 zz_ol0) ((ze_l_law_280 k18 v3 σ).symm.trans h)
noncomputable def l_law_237 (k18 : Int → zz_S → zz_R) (v3 : Int) (σ : zz_S) : zz_R := (if zz_b σ 0 1 (zz_r (v3 + 1)) then (if zz_b σ 0 1 (zz_r (v3 + 2)) then (if zz_b σ 0 1 (zz_r (v3 + 3)) then ((x_set (zz_h σ 0 1 (zz_r (v3 + 1))) (zz_h σ 0 1 (zz_r (v3 + 2))) (zz_h σ 0 1 (zz_r (v3 + 3))) σ).bind fun q1 => (if zz_b q1.2 0 1 (zz_r (v3 + 1)) then (if zz_b q1.2 0 1 (zz_r (v3 + 2)) then (if zz_b q1.2 0 1 (zz_r (v3 + 3)) then ((m_set (zz_h q1.2 0 1 (zz_r (v3 + 1))) (zz_h q1.2 0 1 (zz_r (v3 + 2))) (zz_h q1.2 0 1 (zz_r (v3 + 3))) q1.2).bind fun q2 => (if q1.1 = q2.1 then (k18 (zz_r (v3 + 5)) q2.2) else (some (0, q2.2)))) else none) else none) else none)) else none) else none) else none)
set_option maxRecDepth 100000 in
set_option maxHeartbeats 4000000 in
theorem ze_l_law_237 (k18 : Int → zz_S → zz_R) (v3 : Int) (σ : zz_S) : l_law_237 k18 v3 σ = zz_ev (zz_CE [(14, zw_x_set), (145, zw_m_set)]) (zz_KE [(18, [(0, 2, true), (1, 5, true), (2, 42, true), (3, 0, false)], zz_f1 k18)]) zk_l_law 0 true 0 2 400 true (zz_sk zk_l_law 237) [(0, 2, 1), (1, 5, 1), (2, 42, 1), (3, 0, v3)] [] σ := rfl
theorem zo_l_law_237 (k18 : Int → zz_S → zz_R) (hk18 : zz_okb zM_l_law 18 [(0, 2, true), (1, 5, true), (2, 42, true), (3, 0, false)] (zz_f1 k18)) : zz_okb zM_l_law 237 [(0, 2, true), (1, 5, true), (2, 42, true), (3, 0, false)] (zz_f1 (l_law_237 k18)) :=
  fun vs σ r τ h => by
    obtain ⟨v3, rfl, h⟩ := zz_f1_ok h
    exact zz_from zc_l_law (zz_occ zo_m_x_set (zz_occ zo_m_m_set zz_oc0)) (zz_olc hk18 zz_ol0) ((ze_l_law_237 k18 v3 σ).symm.trans h)
noncomputable def l_law_194 (k18 : Int → zz_S → zz_R) (v3 : Int) (σ : zz_S) : zz_R := (if zz_b σ 0 1 (zz_r (v3 + 1)) then (if zz_b σ 0 1 (zz_r (v3 + 2)) then (if zz_b σ 0 1 (zz_r (v3 + 3)) then ((x_task (zz_h σ 0 1 (zz_r (v3 + 1))) (zz_h σ 0 1 (zz_r (v3 + 2))) (zz_h σ 0 1 (zz_r (v3 + 3))) σ).bind fun q1 => (if zz_b q1.2 0 1 (zz_r (v3 + 1)) then (if zz_b q1.2 0 1 (zz_r (v3 + 2)) then (if zz_b q1.2 0 1 (zz_r (v3 + 3)) then ((m_task (zz_h q1.2 0 1 (zz_r (v3 + 1))) (zz_h q1.2 0 1 (zz_r (v3 + 2))) (zz_h q1.2 0 1 (zz_r (v3 + 3))) q1.2).bind fun q2 => (if q1.1 = q2.1 then (k18 (zz_r (v3 + 5)) q2.2) else (some (0, q2.2)))) else none) else none) else none)) else none) else none) else none)
set_option maxRecDepth 100000 in
set_option maxHeartbeats 4000000 in
theorem ze_l_law_194 (k18 : Int → zz_S → zz_R) (v3 : Int) (σ : zz_S) : l_law_194 k18 v3 σ = zz_ev (zz_CE [(13, zw_x_task), (144, zw_m_task)]) (zz_KE [(18, [(0, 2, true), (1, 5, true), (2, 42, true), (3, 0, false)], zz_f1 k18)]) zk_l_law 0 true 0 2 400 true (zz_sk zk_l_law 194) [(0, 2, 1), (1, 5, 1), (2, 42, 1), (3, 0, v3)] [] σ := rfl
theorem zo_l_law_194 (k18 : Int → zz_S → zz_R) (hk18 : zz_okb zM_l_law 18 [(0, 2, true), (1, 5, true), (2, 42, true), (3, 0, false)] (zz_f1 k18)) : zz_okb zM_l_law 194 [(0, 2, true), (1, 5, true), (2, 42, true), (3, 0, false)] (zz_f1 (l_law_194 k18)) :=
  fun vs σ r τ h => by
    obtain ⟨v3, rfl, h⟩ := zz_f1_ok h
    exact zz_from zc_l_law (zz_occ zo_m_x_task (zz_occ zo_m_m_task zz_oc0)) (zz_olc hk18 zz_ol0) ((ze_l_law_194 k18 v3 σ).symm.trans h)
noncomputable def l_law_171 (k18 : Int → zz_S → zz_R) (v3 : Int) (σ : zz_S) : zz_R := (if zz_b σ 0 1 (zz_r (v3 + 1)) then ((x_group (zz_h σ 0 1 (zz_r (v3 + 1))) σ).bind fun q1 => (if zz_b q1.2 0 1 (zz_r (v3 + 1)) then ((m_group (zz_h q1.2 0 1 (zz_r (v3 + 1))) q1.2).bind fun q2 => (if q1.1 = q2.1 then (k18 (zz_r (v3 + 5)) q2.2) else (some (0, q2.2)))) else none)) else none)
set_option maxRecDepth 100000 in
set_option maxHeartbeats 4000000 in
theorem ze_l_law_171 (k18 : Int → zz_S → zz_R) (v3 : Int) (σ : zz_S) : l_law_171 k18 v3 σ = zz_ev (zz_CE [(12, zw_x_group), (143, zw_m_group)]) (zz_KE [(18, [(0, 2, true), (1, 5, true), (2, 42, true), (3, 0, false)], zz_f1 k18)]) zk_l_law 0 true 0 2 400 true (zz_sk zk_l_law 171) [(0, 2, 1), (1, 5, 1), (2, 42, 1), (3, 0, v3)] [] σ := rfl
theorem zo_l_law_171 (k18 : Int → zz_S → zz_R) (hk18 : zz_okb zM_l_law 18 [(0, 2, true), (1, 5, true), (2, 42, true), (3, 0, false)] (zz_f1 k18)) : zz_okb zM_l_law 171 [(0, 2, true), (1, 5, true), (2, 42, true), (3, 0, false)] (zz_f1 (l_law_171 k18)) :=
  fun vs σ r τ h => by
    obtain ⟨v3, rfl, h⟩ := zz_f1_ok h
    exact zz_from zc_l_law (zz_occ zo_m_x_group (zz_occ zo_m_m_group zz_oc0)) (zz_olc hk18 zz_ol0) ((ze_l_law_171 k18 v3 σ).symm.trans h)
noncomputable def l_law_148 (k18 : Int → zz_S → zz_R) (v3 : Int) (σ : zz_S) : zz_R := (if zz_b σ 0 1 (zz_r (v3 + 1)) then ((x_workers (zz_h σ 0 1 (zz_r (v3 + 1))) σ).bind fun q1 => (if zz_b q1.2 0 1 (zz_r (v3 + 1)) then ((m_workers (zz_h q1.2 0 1 (zz_r (v3 + 1))) q1.2).bind fun q2 => (if q1.1 = q2.1 then (k18 (zz_r (v3 + 5)) q2.2) else (some (0, q2.2)))) else none)) else none)
set_option maxRecDepth 100000 in
set_option maxHeartbeats 4000000 in
theorem ze_l_law_148 (k18 : Int → zz_S → zz_R) (v3 : Int) (σ : zz_S) : l_law_148 k18 v3 σ = zz_ev (zz_CE [(11, zw_x_workers), (142, zw_m_workers)]) (zz_KE [(18, [(0, 2, true), (1, 5, true), (2, 42, true), (3, 0, false)], zz_f1 k18)]) zk_l_law 0 true 0 2 400 true (zz_sk zk_l_law 148) [(0, 2, 1), (1, 5, 1), (2, 42, 1), (3, 0, v3)] [] σ := rfl
theorem zo_l_law_148 (k18 : Int → zz_S → zz_R) (hk18 : zz_okb zM_l_law 18 [(0, 2, true), (1, 5, true), (2, 42, true), (3, 0, false)] (zz_f1 k18)) : zz_okb zM_l_law 148 [(0, 2, true), (1, 5, true), (2, 42, true), (3, 0, false)] (zz_f1 (l_law_148 k18)) :=
  fun vs σ r τ h => by
    obtain ⟨v3, rfl, h⟩ := zz_f1_ok h
    exact zz_from zc_l_law (zz_occ zo_m_x_workers (zz_occ zo_m_m_workers zz_oc0)) (zz_olc hk18 zz_ol0) ((ze_l_law_148 k18 v3 σ).symm.trans h)
noncomputable def l_law_18 : Nat → Int → zz_S → zz_R
  | 0, _, _ => none
  | n + 1, v3, σ => (if v3 ≤ (zz_r ((zz_al σ 0 1) - 5)) then (if zz_b σ 0 1 v3 then (if (zz_and (zz_h σ 0 1 v3) 31) = 0 then (l_law_148 (l_law_18 n) v3 σ) else (if (zz_and (zz_h σ 0 1 v3) 31) = 1 then (l_law_171 (l_law_18 n) v3 σ) else (if (zz_and (zz_h σ 0 1 v3) 31) = 2 then (l_law_194 (l_law_18 n) v3 σ) else (if (zz_and (zz_h σ 0 1 v3) 31) = 3 then (l_law_237 (l_law_18 n) v3 σ) else (if (zz_and (zz_h σ 0 1 v3) 31) = 4 then (l_law_280 (l_law_18 n) v3 σ) else (if (zz_and (zz_h σ 0 1 v3) 31) = 5 then (l_law_333 (l_law_18 n) v3 σ) else (if (zz_and (zz_h σ 0 1 v3) 31) = 6 then (l_law_386 (l_law_18 n) v3 σ) else (if (zz_and (zz_h σ 0 1 v3) 31) = 7 then (l_law_429 (l_law_18 n) v3 σ) else (if (zz_and (zz_h σ 0 1 v3) 31) = 8 then ((x_clearPlan σ).bind fun q5 => ((m_clearPlan q5.2).bind fun q6 => (if q5.1 = q6.1 then (l_law_18 n (zz_r (v3 + 5)) q6.2) else (some (0, q6.2))))) else (if (zz_and (zz_h σ 0 1 v3) 31) = 9 then (l_law_485 (l_law_18 n) v3 σ) else (if (zz_and (zz_h σ 0 1 v3) 31) = 10 then (l_law_508 (l_law_18 n) v3 σ) else (if (zz_and (zz_h σ 0 1 v3) 31) = 11 then (l_law_531 (l_law_18 n) v3 σ) else (if (zz_and (zz_h σ 0 1 v3) 31) = 12 then (l_law_564 (l_law_18 n) v3 σ) else (if (zz_and (zz_h σ 0 1 v3) 31) = 13 then ((x_go σ).bind fun q3 => ((m_go q3.2).bind fun q4 => (if q3.1 = q4.1 then (l_law_18 n (zz_r (v3 + 5)) q4.2) else (some (0, q4.2))))) else (if (zz_and (zz_h σ 0 1 v3) 31) = 14 then (l_law_600 (l_law_18 n) v3 σ) else (if (zz_and (zz_h σ 0 1 v3) 31) = 15 then (l_law_633 (l_law_18 n) v3 σ) else (if (zz_and (zz_h σ 0 1 v3) 31) = 16 then (l_law_666 (l_law_18 n) v3 σ) else (if (zz_and (zz_h σ 0 1 v3) 31) = 17 then (l_law_699 (l_law_18 n) v3 σ) else (if (zz_and (zz_h σ 0 1 v3) 31) = 18 then (l_law_732 (l_law_18 n) v3 σ) else (if (zz_and (zz_h σ 0 1 v3) 31) = 19 then (l_law_765 (l_law_18 n) v3 σ) else (if (zz_and (zz_h σ 0 1 v3) 31) = 20 then (l_law_788 (l_law_18 n) v3 σ) else (if (zz_and (zz_h σ 0 1 v3) 31) = 21 then (l_law_811 (l_law_18 n) v3 σ) else (if (zz_and (zz_h σ 0 1 v3) 31) = 22 then (l_law_844 (l_law_18 n) v3 σ) else (if (zz_and (zz_h σ 0 1 v3) 31) = 23 then (l_law_867 (l_law_18 n) v3 σ) else (if (zz_and (zz_h σ 0 1 v3) 31) = 24 then ((x_quiet σ).bind fun q1 => ((m_quiet q1.2).bind fun q2 => (if q1.1 = q2.1 then (l_law_18 n (zz_r (v3 + 5)) q2.2) else (some (0, q2.2))))) else (l_law_18 n (zz_r (v3 + 5)) σ)))))))))))))))))))))))))) else none) else (some (1, σ)))
set_option maxRecDepth 100000 in
set_option maxHeartbeats 4000000 in
theorem ze_l_law_18 (n : Nat) (v3 : Int) (σ : zz_S) : l_law_18 (n + 1) v3 σ = zz_ev (zz_CE [(23, zw_x_clearPlan), (57, zw_x_go), (71, zw_x_quiet), (152, zw_m_clearPlan), (156, zw_m_go), (167, zw_m_quiet)]) (zz_KE [(18, [(0, 2, true), (1, 5, true), (2, 42, true), (3, 0, false)], zz_f1 (l_law_18 n)), (148, [(0, 2, true), (1, 5, true), (2, 42, true), (3, 0, false)], zz_f1 (l_law_148 (l_law_18 n))), (171, [(0, 2, true), (1, 5, true), (2, 42, true), (3, 0, false)], zz_f1 (l_law_171 (l_law_18 n))), (194, [(0, 2, true), (1, 5, true), (2, 42, true), (3, 0, false)], zz_f1 (l_law_194 (l_law_18 n))), (237, [(0, 2, true), (1, 5, true), (2, 42, true), (3, 0, false)], zz_f1 (l_law_237 (l_law_18 n))), (280, [(0, 2, true), (1, 5, true), (2, 42, true), (3, 0, false)], zz_f1 (l_law_280 (l_law_18 n))), (333, [(0, 2, true), (1, 5, true), (2, 42, true), (3, 0, false)], zz_f1 (l_law_333 (l_law_18 n))), (386, [(0, 2, true), (1, 5, true), (2, 42, true), (3, 0, false)], zz_f1 (l_law_386 (l_law_18 n))), (429, [(0, 2, true), (1, 5, true), (2, 42, true), (3, 0, false)], zz_f1 (l_law_429 (l_law_18 n))), (485, [(0, 2, true), (1, 5, true), (2, 42, true), (3, 0, false)], zz_f1 (l_law_485 (l_law_18 n))), (508, [(0, 2, true), (1, 5, true), (2, 42, true), (3, 0, false)], zz_f1 (l_law_508 (l_law_18 n))), (531, [(0, 2, true), (1, 5, true), (2, 42, true), (3, 0, false)], zz_f1 (l_law_531 (l_law_18 n))), (564, [(0, 2, true), (1, 5, true), (2, 42, true), (3, 0, false)], zz_f1 (l_law_564 (l_law_18 n))), (600, [(0, 2, true), (1, 5, true), (2, 42, true), (3, 0, false)], zz_f1 (l_law_600 (l_law_18 n))), (633, [(0, 2, true), (1, 5, true), (2, 42, true), (3, 0, false)], zz_f1 (l_law_633 (l_law_18 n))), (666, [(0, 2, true), (1, 5, true), (2, 42, true), (3, 0, false)], zz_f1 (l_law_666 (l_law_18 n))), (699, [(0, 2, true), (1, 5, true), (2, 42, true), (3, 0, false)], zz_f1 (l_law_699 (l_law_18 n))), (732, [(0, 2, true), (1, 5, true), (2, 42, true), (3, 0, false)], zz_f1 (l_law_732 (l_law_18 n))), (765, [(0, 2, true), (1, 5, true), (2, 42, true), (3, 0, false)], zz_f1 (l_law_765 (l_law_18 n))), (788, [(0, 2, true), (1, 5, true), (2, 42, true), (3, 0, false)], zz_f1 (l_law_788 (l_law_18 n))), (811, [(0, 2, true), (1, 5, true), (2, 42, true), (3, 0, false)], zz_f1 (l_law_811 (l_law_18 n))), (844, [(0, 2, true), (1, 5, true), (2, 42, true), (3, 0, false)], zz_f1 (l_law_844 (l_law_18 n))), (867, [(0, 2, true), (1, 5, true), (2, 42, true), (3, 0, false)], zz_f1 (l_law_867 (l_law_18 n)))]) zk_l_law 0 true 0 2 400 true (zz_sk zk_l_law 18) [(0, 2, 1), (1, 5, 1), (2, 42, 1), (3, 0, v3)] [] σ := rfl
theorem zo_l_law_18 : ∀ n : Nat, zz_okb zM_l_law 18 [(0, 2, true), (1, 5, true), (2, 42, true), (3, 0, false)] (zz_f1 (l_law_18 n))
  | 0 => fun vs σ r τ h => by
    obtain ⟨v3, rfl, h⟩ := zz_f1_ok h
    exact nomatch (show (none : zz_R) = some (r, τ) from h)
  | n + 1 => by
    have ih := zo_l_law_18 n
    exact fun vs σ r τ h => by
        obtain ⟨v3, rfl, h⟩ := zz_f1_ok h
        exact zz_from zc_l_law (zz_occ zo_m_x_clearPlan (zz_occ zo_m_x_go (zz_occ zo_m_x_quiet (zz_occ zo_m_m_clearPlan (zz_occ zo_m_m_go (zz_occ zo_m_m_quiet zz_oc0)))))) (zz_olc ih (zz_olc (zo_l_law_148 (l_law_18 n) ih) (zz_olc (zo_l_law_171 (l_law_18 n) ih) (zz_olc (zo_l_law_194 (l_law_18 n) ih) (zz_olc (zo_l_law_237 (l_law_18 n) ih) (zz_olc (zo_l_law_280 (l_law_18 n) ih) (zz_olc (zo_l_law_333 (l_law_18 n) ih) (zz_olc (zo_l_law_386 (l_law_18 n) ih) (zz_olc (zo_l_law_429 (l_law_18 n) ih) (zz_olc (zo_l_law_485 (l_law_18 n) ih) (zz_olc (zo_l_law_508 (l_law_18 n) ih) (zz_olc (zo_l_law_531 (l_law_18 n) ih) (zz_olc (zo_l_law_564 (l_law_18 n) ih) (zz_olc (zo_l_law_600 (l_law_18 n) ih) (zz_olc (zo_l_law_633 (l_law_18 n) ih) (zz_olc (zo_l_law_666 (l_law_18 n) ih) (zz_olc (zo_l_law_699 (l_law_18 n) ih) (zz_olc (zo_l_law_732 (l_law_18 n) ih) (zz_olc (zo_l_law_765 (l_law_18 n) ih) (zz_olc (zo_l_law_788 (l_law_18 n) ih) (zz_olc (zo_l_law_811 (l_law_18 n) ih) (zz_olc (zo_l_law_844 (l_law_18 n) ih) (zz_olc (zo_l_law_867 (l_law_18 n) ih) zz_ol0))))))))))))))))))))))) ((ze_l_law_18 n v3 σ).symm.trans h)
noncomputable def l_law (σ : zz_S) : zz_R := (let s1 := zz_n σ 3 0 20; ((x_new (zz_c σ 3 + 1) s1).bind fun q2 => (if zz_c q2.2 3 = zz_m q2.2 3 then (let s3 := zz_n q2.2 40 0 67; ((m_new (zz_c q2.2 40 + 1) s3).bind fun q4 => (if zz_c q4.2 40 = zz_m q4.2 40 then (if (zz_c σ 3 + 1) = 1 then (if (zz_c q2.2 40 + 1) = 1 then (l_law_18 zz_fu 0 q4.2) else none) else none) else none))) else none)))
set_option maxRecDepth 100000 in
set_option maxHeartbeats 4000000 in
theorem ze_l_law (σ : zz_S) : l_law σ = zz_ev (zz_CE [(10, zw_x_new), (107, zw_m_new)]) (zz_KE [(18, [(0, 2, true), (1, 5, true), (2, 42, true), (3, 0, false)], zz_f1 (l_law_18 zz_fu))]) zk_l_law 0 true 0 2 400 true (zz_sk zk_l_law 0) [(0, 2, 1)] [] σ := rfl
theorem zo_l_law : zz_okb zM_l_law 0 [(0, 2, true)] (zz_f0 l_law) :=
  fun vs σ r τ h => by
    obtain ⟨rfl, h⟩ := zz_f0_ok h
    exact zz_from zc_l_law (zz_occ zo_m_x_new (zz_occ zo_m_m_new zz_oc0)) (zz_olc (zo_l_law_18 zz_fu) zz_ol0) ((ze_l_law σ).symm.trans h)
