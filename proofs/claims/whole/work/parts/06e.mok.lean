def kq79_0 : List fd_E := [(0, .new 7, 3, 0, [3]), (3, .dup, 1, 0, []), (4, .invokespecial 9, 3, 0, [23, 2]), (7, .astore_n 1, 1, 0, [1]), (8, .new 10, 3, 0, [4]), (11, .dup, 1, 0, []), (12, .invokespecial 12, 3, 0, [47, 2]), (15, .astore_n 2, 1, 0, [2]), (16, .iconst 0, 1, 0, []), (17, .istore_n 3, 1, 0, [3]), (18, .iload_n 3, 1, 0, [3]), (19, .aload_n 0, 1, 0, [0]), (20, .arraylength, 1, 0, []), (21, .iconst 4, 1, 4, []), (22, .isub, 1, 0, []), (23, .if_icmp .gt 453, 3, 0, [316]), (26, .aload_n 0, 1, 0, [0]), (27, .iload_n 3, 1, 0, [3]), (28, .iaload, 1, 0, []), (29, .bipush 15, 2, 15, []), (31, .iand, 1, 0, []), (32, .tableswitch 438 0 12 #[68, 111, 154, 177, 220, 243, 276, 299, 312, 335, 368, 401, 424], 68, 0, [314, 22, 59, 96, 113, 150, 167, 194, 211, 218, 235, 262, 289, 306]), (100, .aload_n 1, 1, 0, [1]), (101, .aload_n 0, 1, 0, [0]), (102, .iload_n 3, 1, 0, [3]), (103, .iconst 1, 1, 1, []), (104, .iadd, 1, 0, []), (105, .iaload, 1, 0, []), (106, .aload_n 0, 1, 0, [0]), (107, .iload_n 3, 1, 0, [3])]
theorem fd_ck79_0 : fd_ckC 79 kq79_0 (108, .iconst 2, 1, 2, []) = true := by decide +kernel
def kq79_1 : List fd_E := [(108, .iconst 2, 1, 2, []), (109, .iadd, 1, 0, []), (110, .iaload, 1, 0, []), (111, .aload_n 0, 1, 0, [0]), (112, .iload_n 3, 1, 0, [3]), (113, .iconst 3, 1, 3, []), (114, .iadd, 1, 0, []), (115, .iaload, 1, 0, []), (116, .invokevirtual 13, 3, 0, [24, 0]), (119, .aload_n 2, 1, 0, [2]), (120, .aload_n 0, 1, 0, [0]), (121, .iload_n 3, 1, 0, [3]), (122, .iconst 1, 1, 1, []), (123, .iadd, 1, 0, []), (124, .iaload, 1, 0, []), (125, .aload_n 0, 1, 0, [0]), (126, .iload_n 3, 1, 0, [3]), (127, .iconst 2, 1, 2, []), (128, .iadd, 1, 0, []), (129, .iaload, 1, 0, []), (130, .aload_n 0, 1, 0, [0]), (131, .iload_n 3, 1, 0, [3]), (132, .iconst 3, 1, 3, []), (133, .iadd, 1, 0, []), (134, .iaload, 1, 0, []), (135, .invokevirtual 17, 3, 0, [51, 0]), (138, .if_icmp .eq 332, 3, 0, [314]), (141, .iconst 0, 1, 0, []), (142, .ireturn, 1, 0, []), (143, .aload_n 1, 1, 0, [1])]
theorem fd_ck79_1 : fd_ckC 79 kq79_1 (144, .aload_n 0, 1, 0, [0]) = true := by decide +kernel
def kq79_2 : List fd_E := [(144, .aload_n 0, 1, 0, [0]), (145, .iload_n 3, 1, 0, [3]), (146, .iconst 1, 1, 1, []), (147, .iadd, 1, 0, []), (148, .iaload, 1, 0, []), (149, .aload_n 0, 1, 0, [0]), (150, .iload_n 3, 1, 0, [3]), (151, .iconst 2, 1, 2, []), (152, .iadd, 1, 0, []), (153, .iaload, 1, 0, []), (154, .aload_n 0, 1, 0, [0]), (155, .iload_n 3, 1, 0, [3]), (156, .iconst 3, 1, 3, []), (157, .iadd, 1, 0, []), (158, .iaload, 1, 0, []), (159, .invokevirtual 18, 3, 0, [25, 0]), (162, .aload_n 2, 1, 0, [2]), (163, .aload_n 0, 1, 0, [0]), (164, .iload_n 3, 1, 0, [3]), (165, .iconst 1, 1, 1, []), (166, .iadd, 1, 0, []), (167, .iaload, 1, 0, []), (168, .aload_n 0, 1, 0, [0]), (169, .iload_n 3, 1, 0, [3]), (170, .iconst 2, 1, 2, []), (171, .iadd, 1, 0, []), (172, .iaload, 1, 0, []), (173, .aload_n 0, 1, 0, [0]), (174, .iload_n 3, 1, 0, [3]), (175, .iconst 3, 1, 3, [])]
theorem fd_ck79_2 : fd_ckC 79 kq79_2 (176, .iadd, 1, 0, []) = true := by decide +kernel
def kq79_3 : List fd_E := [(176, .iadd, 1, 0, []), (177, .iaload, 1, 0, []), (178, .invokevirtual 21, 3, 0, [61, 0]), (181, .if_icmp .eq 289, 3, 0, [314]), (184, .iconst 0, 1, 0, []), (185, .ireturn, 1, 0, []), (186, .aload_n 1, 1, 0, [1]), (187, .aload_n 0, 1, 0, [0]), (188, .iload_n 3, 1, 0, [3]), (189, .iconst 1, 1, 1, []), (190, .iadd, 1, 0, []), (191, .iaload, 1, 0, []), (192, .invokevirtual 22, 3, 0, [26, 0]), (195, .aload_n 2, 1, 0, [2]), (196, .aload_n 0, 1, 0, [0]), (197, .iload_n 3, 1, 0, [3]), (198, .iconst 1, 1, 1, []), (199, .iadd, 1, 0, []), (200, .iaload, 1, 0, []), (201, .invokevirtual 26, 3, 0, [62, 0]), (204, .if_icmp .eq 266, 3, 0, [314]), (207, .iconst 0, 1, 0, []), (208, .ireturn, 1, 0, []), (209, .aload_n 1, 1, 0, [1]), (210, .aload_n 0, 1, 0, [0]), (211, .iload_n 3, 1, 0, [3]), (212, .iconst 1, 1, 1, []), (213, .iadd, 1, 0, []), (214, .iaload, 1, 0, []), (215, .aload_n 0, 1, 0, [0])]
theorem fd_ck79_3 : fd_ckC 79 kq79_3 (216, .iload_n 3, 1, 0, [3]) = true := by decide +kernel
def kq79_4 : List fd_E := [(216, .iload_n 3, 1, 0, [3]), (217, .iconst 2, 1, 2, []), (218, .iadd, 1, 0, []), (219, .iaload, 1, 0, []), (220, .aload_n 0, 1, 0, [0]), (221, .iload_n 3, 1, 0, [3]), (222, .iconst 3, 1, 3, []), (223, .iadd, 1, 0, []), (224, .iaload, 1, 0, []), (225, .invokevirtual 27, 3, 0, [27, 0]), (228, .aload_n 2, 1, 0, [2]), (229, .aload_n 0, 1, 0, [0]), (230, .iload_n 3, 1, 0, [3]), (231, .iconst 1, 1, 1, []), (232, .iadd, 1, 0, []), (233, .iaload, 1, 0, []), (234, .aload_n 0, 1, 0, [0]), (235, .iload_n 3, 1, 0, [3]), (236, .iconst 2, 1, 2, []), (237, .iadd, 1, 0, []), (238, .iaload, 1, 0, []), (239, .aload_n 0, 1, 0, [0]), (240, .iload_n 3, 1, 0, [3]), (241, .iconst 3, 1, 3, []), (242, .iadd, 1, 0, []), (243, .iaload, 1, 0, []), (244, .invokevirtual 30, 3, 0, [64, 0]), (247, .if_icmp .eq 223, 3, 0, [314]), (250, .iconst 0, 1, 0, []), (251, .ireturn, 1, 0, [])]
theorem fd_ck79_4 : fd_ckC 79 kq79_4 (252, .aload_n 1, 1, 0, [1]) = true := by decide +kernel
def kq79_5 : List fd_E := [(252, .aload_n 1, 1, 0, [1]), (253, .aload_n 0, 1, 0, [0]), (254, .iload_n 3, 1, 0, [3]), (255, .iconst 1, 1, 1, []), (256, .iadd, 1, 0, []), (257, .iaload, 1, 0, []), (258, .invokevirtual 31, 3, 0, [28, 0]), (261, .aload_n 2, 1, 0, [2]), (262, .aload_n 0, 1, 0, [0]), (263, .iload_n 3, 1, 0, [3]), (264, .iconst 1, 1, 1, []), (265, .iadd, 1, 0, []), (266, .iaload, 1, 0, []), (267, .invokevirtual 34, 3, 0, [65, 0]), (270, .if_icmp .eq 200, 3, 0, [314]), (273, .iconst 0, 1, 0, []), (274, .ireturn, 1, 0, []), (275, .aload_n 1, 1, 0, [1]), (276, .aload_n 0, 1, 0, [0]), (277, .iload_n 3, 1, 0, [3]), (278, .iconst 1, 1, 1, []), (279, .iadd, 1, 0, []), (280, .iaload, 1, 0, []), (281, .aload_n 0, 1, 0, [0]), (282, .iload_n 3, 1, 0, [3]), (283, .iconst 2, 1, 2, []), (284, .iadd, 1, 0, []), (285, .iaload, 1, 0, []), (286, .invokevirtual 35, 3, 0, [29, 0]), (289, .aload_n 2, 1, 0, [2])]
theorem fd_ck79_5 : fd_ckC 79 kq79_5 (290, .aload_n 0, 1, 0, [0]) = true := by decide +kernel
def kq79_6 : List fd_E := [(290, .aload_n 0, 1, 0, [0]), (291, .iload_n 3, 1, 0, [3]), (292, .iconst 1, 1, 1, []), (293, .iadd, 1, 0, []), (294, .iaload, 1, 0, []), (295, .aload_n 0, 1, 0, [0]), (296, .iload_n 3, 1, 0, [3]), (297, .iconst 2, 1, 2, []), (298, .iadd, 1, 0, []), (299, .iaload, 1, 0, []), (300, .invokevirtual 39, 3, 0, [69, 0]), (303, .if_icmp .eq 167, 3, 0, [314]), (306, .iconst 0, 1, 0, []), (307, .ireturn, 1, 0, []), (308, .aload_n 1, 1, 0, [1]), (309, .aload_n 0, 1, 0, [0]), (310, .iload_n 3, 1, 0, [3]), (311, .iconst 1, 1, 1, []), (312, .iadd, 1, 0, []), (313, .iaload, 1, 0, []), (314, .invokevirtual 40, 3, 0, [30, 0]), (317, .aload_n 2, 1, 0, [2]), (318, .aload_n 0, 1, 0, [0]), (319, .iload_n 3, 1, 0, [3]), (320, .iconst 1, 1, 1, []), (321, .iadd, 1, 0, []), (322, .iaload, 1, 0, []), (323, .invokevirtual 43, 3, 0, [70, 0]), (326, .if_icmp .eq 144, 3, 0, [314]), (329, .iconst 0, 1, 0, [])]
theorem fd_ck79_6 : fd_ckC 79 kq79_6 (330, .ireturn, 1, 0, []) = true := by decide +kernel
def kq79_7 : List fd_E := [(330, .ireturn, 1, 0, []), (331, .aload_n 1, 1, 0, [1]), (332, .invokevirtual 44, 3, 0, [31, 0]), (335, .aload_n 2, 1, 0, [2]), (336, .invokevirtual 48, 3, 0, [71, 0]), (339, .if_icmp .eq 131, 3, 0, [314]), (342, .iconst 0, 1, 0, []), (343, .ireturn, 1, 0, []), (344, .aload_n 1, 1, 0, [1]), (345, .aload_n 0, 1, 0, [0]), (346, .iload_n 3, 1, 0, [3]), (347, .iconst 1, 1, 1, []), (348, .iadd, 1, 0, []), (349, .iaload, 1, 0, []), (350, .invokevirtual 49, 3, 0, [32, 0]), (353, .aload_n 2, 1, 0, [2]), (354, .aload_n 0, 1, 0, [0]), (355, .iload_n 3, 1, 0, [3]), (356, .iconst 1, 1, 1, []), (357, .iadd, 1, 0, []), (358, .iaload, 1, 0, []), (359, .invokevirtual 52, 3, 0, [72, 0]), (362, .if_icmp .eq 108, 3, 0, [314]), (365, .iconst 0, 1, 0, []), (366, .ireturn, 1, 0, []), (367, .aload_n 1, 1, 0, [1]), (368, .aload_n 0, 1, 0, [0]), (369, .iload_n 3, 1, 0, [3]), (370, .iconst 1, 1, 1, []), (371, .iadd, 1, 0, [])]
theorem fd_ck79_7 : fd_ckC 79 kq79_7 (372, .iaload, 1, 0, []) = true := by decide +kernel
def kq79_8 : List fd_E := [(372, .iaload, 1, 0, []), (373, .aload_n 0, 1, 0, [0]), (374, .iload_n 3, 1, 0, [3]), (375, .iconst 2, 1, 2, []), (376, .iadd, 1, 0, []), (377, .iaload, 1, 0, []), (378, .invokevirtual 53, 3, 0, [33, 0]), (381, .aload_n 2, 1, 0, [2]), (382, .aload_n 0, 1, 0, [0]), (383, .iload_n 3, 1, 0, [3]), (384, .iconst 1, 1, 1, []), (385, .iadd, 1, 0, []), (386, .iaload, 1, 0, []), (387, .aload_n 0, 1, 0, [0]), (388, .iload_n 3, 1, 0, [3]), (389, .iconst 2, 1, 2, []), (390, .iadd, 1, 0, []), (391, .iaload, 1, 0, []), (392, .invokevirtual 56, 3, 0, [75, 0]), (395, .if_icmp .eq 75, 3, 0, [314]), (398, .iconst 0, 1, 0, []), (399, .ireturn, 1, 0, []), (400, .aload_n 1, 1, 0, [1]), (401, .aload_n 0, 1, 0, [0]), (402, .iload_n 3, 1, 0, [3]), (403, .iconst 1, 1, 1, []), (404, .iadd, 1, 0, []), (405, .iaload, 1, 0, []), (406, .aload_n 0, 1, 0, [0]), (407, .iload_n 3, 1, 0, [3])]
theorem fd_ck79_8 : fd_ckC 79 kq79_8 (408, .iconst 2, 1, 2, []) = true := by decide +kernel
def kq79_9 : List fd_E := [(408, .iconst 2, 1, 2, []), (409, .iadd, 1, 0, []), (410, .iaload, 1, 0, []), (411, .invokevirtual 57, 3, 0, [34, 0]), (414, .aload_n 2, 1, 0, [2]), (415, .aload_n 0, 1, 0, [0]), (416, .iload_n 3, 1, 0, [3]), (417, .iconst 1, 1, 1, []), (418, .iadd, 1, 0, []), (419, .iaload, 1, 0, []), (420, .aload_n 0, 1, 0, [0]), (421, .iload_n 3, 1, 0, [3]), (422, .iconst 2, 1, 2, []), (423, .iadd, 1, 0, []), (424, .iaload, 1, 0, []), (425, .invokevirtual 60, 3, 0, [76, 0]), (428, .if_icmp .eq 42, 3, 0, [314]), (431, .iconst 0, 1, 0, []), (432, .ireturn, 1, 0, []), (433, .aload_n 1, 1, 0, [1]), (434, .aload_n 0, 1, 0, [0]), (435, .iload_n 3, 1, 0, [3]), (436, .iconst 1, 1, 1, []), (437, .iadd, 1, 0, []), (438, .iaload, 1, 0, []), (439, .invokevirtual 61, 3, 0, [35, 0]), (442, .aload_n 2, 1, 0, [2]), (443, .aload_n 0, 1, 0, [0]), (444, .iload_n 3, 1, 0, [3]), (445, .iconst 1, 1, 1, [])]
theorem fd_ck79_9 : fd_ckC 79 kq79_9 (446, .iadd, 1, 0, []) = true := by decide +kernel
def kq79_10 : List fd_E := [(446, .iadd, 1, 0, []), (447, .iaload, 1, 0, []), (448, .invokevirtual 64, 3, 0, [77, 0]), (451, .if_icmp .eq 19, 3, 0, [314]), (454, .iconst 0, 1, 0, []), (455, .ireturn, 1, 0, []), (456, .aload_n 1, 1, 0, [1]), (457, .invokevirtual 65, 3, 0, [36, 0]), (460, .aload_n 2, 1, 0, [2]), (461, .invokevirtual 69, 3, 0, [78, 0]), (464, .lcmp, 1, 0, []), (465, .ifCond .eq 5, 3, 0, [314]), (468, .iconst 0, 1, 0, []), (469, .ireturn, 1, 0, []), (470, .iinc 3 4, 3, 4, [3]), (473, .goto (-455), 3, 0, [10]), (476, .iconst 1, 1, 1, []), (477, .ireturn, 1, 0, []), (478, .athrow, 0, 0, [])]
theorem fd_ck79_10 : fd_ckL 79 kq79_10 = true := by decide +kernel
theorem fd_ckL_79 : fd_ckL 79 (fd_code 79) = true := fd_ckL_app kq79_0 _ _ fd_ck79_0 (fd_ckL_app kq79_1 _ _ fd_ck79_1 (fd_ckL_app kq79_2 _ _ fd_ck79_2 (fd_ckL_app kq79_3 _ _ fd_ck79_3 (fd_ckL_app kq79_4 _ _ fd_ck79_4 (fd_ckL_app kq79_5 _ _ fd_ck79_5 (fd_ckL_app kq79_6 _ _ fd_ck79_6 (fd_ckL_app kq79_7 _ _ fd_ck79_7 (fd_ckL_app kq79_8 _ _ fd_ck79_8 (fd_ckL_app kq79_9 _ _ fd_ck79_9 (fd_ck79_10))))))))))
theorem fd_lawck : fd_ckL 79 (fd_code 79) = true := fd_ckL_79
theorem fd_mok_all (mi : Nat) (h : mi < 79) : fd_mok mi = true := by
  match mi, h with
  | 0, _ => exact fd_mok_0
  | 1, _ => exact fd_mok_1
  | 2, _ => exact fd_mok_2
  | 3, _ => exact fd_mok_3
  | 4, _ => exact fd_mok_4
  | 5, _ => exact fd_mok_5
  | 6, _ => exact fd_mok_6
  | 7, _ => exact fd_mok_7
  | 8, _ => exact fd_mok_8
  | 9, _ => exact fd_mok_9
  | 10, _ => exact fd_mok_10
  | 11, _ => exact fd_mok_11
  | 12, _ => exact fd_mok_12
  | 13, _ => exact fd_mok_13
  | 14, _ => exact fd_mok_14
  | 15, _ => exact fd_mok_15
  | 16, _ => exact fd_mok_16
  | 17, _ => exact fd_mok_17
  | 18, _ => exact fd_mok_18
  | 19, _ => exact fd_mok_19
  | 20, _ => exact fd_mok_20
  | 21, _ => exact fd_mok_21
  | 22, _ => exact fd_mok_22
  | 23, _ => exact fd_mok_23
  | 24, _ => exact fd_mok_24
  | 25, _ => exact fd_mok_25
  | 26, _ => exact fd_mok_26
  | 27, _ => exact fd_mok_27
  | 28, _ => exact fd_mok_28
  | 29, _ => exact fd_mok_29
  | 30, _ => exact fd_mok_30
  | 31, _ => exact fd_mok_31
  | 32, _ => exact fd_mok_32
  | 33, _ => exact fd_mok_33
  | 34, _ => exact fd_mok_34
  | 35, _ => exact fd_mok_35
  | 36, _ => exact fd_mok_36
  | 37, _ => exact fd_mok_37
  | 38, _ => exact fd_mok_38
  | 39, _ => exact fd_mok_39
  | 40, _ => exact fd_mok_40
  | 41, _ => exact fd_mok_41
  | 42, _ => exact fd_mok_42
  | 43, _ => exact fd_mok_43
  | 44, _ => exact fd_mok_44
  | 45, _ => exact fd_mok_45
  | 46, _ => exact fd_mok_46
  | 47, _ => exact fd_mok_47
  | 48, _ => exact fd_mok_48
  | 49, _ => exact fd_mok_49
  | 50, _ => exact fd_mok_50
  | 51, _ => exact fd_mok_51
  | 52, _ => exact fd_mok_52
  | 53, _ => exact fd_mok_53
  | 54, _ => exact fd_mok_54
  | 55, _ => exact fd_mok_55
  | 56, _ => exact fd_mok_56
  | 57, _ => exact fd_mok_57
  | 58, _ => exact fd_mok_58
  | 59, _ => exact fd_mok_59
  | 60, _ => exact fd_mok_60
  | 61, _ => exact fd_mok_61
  | 62, _ => exact fd_mok_62
  | 63, _ => exact fd_mok_63
  | 64, _ => exact fd_mok_64
  | 65, _ => exact fd_mok_65
  | 66, _ => exact fd_mok_66
  | 67, _ => exact fd_mok_67
  | 68, _ => exact fd_mok_68
  | 69, _ => exact fd_mok_69
  | 70, _ => exact fd_mok_70
  | 71, _ => exact fd_mok_71
  | 72, _ => exact fd_mok_72
  | 73, _ => exact fd_mok_73
  | 74, _ => exact fd_mok_74
  | 75, _ => exact fd_mok_75
  | 76, _ => exact fd_mok_76
  | 77, _ => exact fd_mok_77
  | 78, _ => exact fd_mok_78
  | n + 79, h => omega
