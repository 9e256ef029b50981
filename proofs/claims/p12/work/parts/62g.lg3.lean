/-! LAW GLUE (3): the script's numbers told, two calls behind one another -/
noncomputable def gq_E : ai_E := (393, [(1, (.ofNat 0, .ofNat 5110)), (2, (.ofNat 0, .ofNat 4)), (3, (.ofNat 0, .ofNat 60)), (4, (.negSucc 2147483647, .ofNat 2147483647)), (5, (.negSucc 2147483647, .ofNat 2147483647)), (6, (.negSucc 2147483647, .ofNat 2147483647)), (7, (.negSucc 2147483647, .ofNat 2147483647)), (8, (.negSucc 2147483647, .ofNat 2147483647)), (9, (.negSucc 2147483647, .ofNat 2147483647)), (10, (.negSucc 2147483647, .ofNat 2147483647)), (11, (.negSucc 2147483647, .ofNat 2147483647)), (12, (.ofNat 0, .ofNat 48)), (13, (.negSucc 2147483647, .ofNat 2147483647)), (14, (.negSucc 2147483647, .ofNat 2147483647)), (15, (.negSucc 2147483647, .ofNat 2147483647)), (16, (.negSucc 2147483647, .ofNat 2147483647)), (17, (.negSucc 2147483647, .ofNat 2147483647)), (18, (.negSucc 2147483647, .ofNat 2147483647)), (19, (.negSucc 2147483647, .ofNat 2147483647)), (20, (.ofNat 0, .ofNat 48)), (21, (.negSucc 2147483647, .ofNat 2147483647)), (22, (.negSucc 2147483647, .ofNat 2147483647)), (23, (.negSucc 2147483647, .ofNat 2147483647)), (24, (.negSucc 2147483647, .ofNat 2147483647)), (25, (.negSucc 2147483647, .ofNat 2147483647)), (26, (.negSucc 2147483647, .ofNat 2147483647)), (27, (.negSucc 2147483647, .ofNat 2147483647)), (28, (.ofNat 0, .ofNat 48)), (29, (.negSucc 2147483647, .ofNat 2147483647)), (30, (.negSucc 2147483647, .ofNat 2147483647)), (31, (.negSucc 2147483647, .ofNat 2147483647)), (32, (.negSucc 2147483647, .ofNat 2147483647)), (33, (.negSucc 2147483647, .ofNat 2147483647)), (34, (.negSucc 2147483647, .ofNat 2147483647)), (35, (.negSucc 2147483647, .ofNat 2147483647)), (36, (.ofNat 0, .ofNat 48)), (37, (.ofNat 0, .ofNat 200)), (38, (.negSucc 2147483647, .ofNat 2147483647)), (39, (.negSucc 2147483647, .ofNat 2147483647)), (40, (.ofNat 0, .ofNat 200)), (41, (.ofNat 0, .ofNat 200)), (42, (.negSucc 2147483647, .ofNat 2147483647)), (43, (.negSucc 2147483647, .ofNat 2147483647)), (44, (.negSucc 2147483647, .ofNat 2147483647)), (45, (.negSucc 2147483647, .ofNat 2147483647)), (46, (.negSucc 2147483647, .ofNat 2147483647)), (47, (.ofNat 0, .ofNat 4)), (48, (.ofNat 0, .ofNat 4)), (49, (.negSucc 2147483647, .ofNat 2147483647)), (50, (.negSucc 2147483647, .ofNat 2147483647)), (51, (.ofNat 0, .ofNat 7)), (52, (.negSucc 2147483647, .ofNat 2147483647)), (53, (.negSucc 2147483647, .ofNat 2147483647)), (54, (.negSucc 2147483647, .ofNat 2147483647)), (55, (.negSucc 2147483647, .ofNat 2147483647)), (56, (.ofNat 0, .ofNat 1)), (57, (.negSucc 2147483647, .ofNat 2147483647)), (58, (.ofNat 0, .ofNat 1)), (59, (.ofNat 0, .ofNat 1)), (60, (.negSucc 2147483647, .ofNat 2147483647)), (61, (.ofNat 0, .ofNat 1000)), (62, (.negSucc 2147483647, .ofNat 2147483647)), (63, (.ofNat 0, .ofNat 4)), (64, (.ofNat 0, .ofNat 4)), (65, (.negSucc 2147483647, .ofNat 2147483647)), (66, (.negSucc 2147483647, .ofNat 2147483647)), (67, (.ofNat 0, .ofNat 13)), (68, (.negSucc 2147483647, .ofNat 2147483647)), (69, (.ofNat 0, .ofNat 4096)), (70, (.negSucc 2147483647, .ofNat 2147483647)), (71, (.ofNat 0, .ofNat 4)), (72, (.ofNat 0, .ofNat 5)), (73, (.ofNat 0, .ofNat 4)), (74, (.ofNat 0, .ofNat 12)), (75, (.ofNat 0, .ofNat 200)), (76, (.ofNat 0, .ofNat 200)), (77, (.ofNat 0, .ofNat 200)), (78, (.ofNat 0, .ofNat 4)), (79, (.negSucc 2147483647, .ofNat 2147483647)), (80, (.negSucc 2147483647, .ofNat 2147483647)), (81, (.ofNat 0, .ofNat 200)), (82, (.ofNat 0, .ofNat 200)), (83, (.ofNat 0, .ofNat 3)), (84, (.negSucc 2147483647, .ofNat 2147483647)), (85, (.negSucc 2147483647, .ofNat 2147483647)), (86, (.ofNat 0, .ofNat 400)), (87, (.ofNat 0, .ofNat 1)), (88, (.negSucc 2147483647, .ofNat 2147483647)), (89, (.negSucc 2147483647, .ofNat 2147483647)), (90, (.negSucc 2147483647, .ofNat 2147483647)), (91, (.negSucc 2147483647, .ofNat 2147483647)), (92, (.negSucc 2147483647, .ofNat 2147483647)), (93, (.ofNat 0, .ofNat 1)), (94, (.ofNat 0, .ofNat 4)), (95, (.ofNat 0, .ofNat 4)), (96, (.negSucc 2147483647, .ofNat 2147483647)), (97, (.ofNat 0, .ofNat 4)), (98, (.ofNat 0, .ofNat 4)), (99, (.ofNat 0, .ofNat 1)), (100, (.ofNat 0, .ofNat 1)), (101, (.ofNat 0, .ofNat 1)), (102, (.negSucc 2147483647, .ofNat 2147483647)), (103, (.negSucc 2147483647, .ofNat 2147483647)), (104, (.negSucc 2147483647, .ofNat 2147483647)), (105, (.negSucc 2147483647, .ofNat 2147483647)), (106, (.negSucc 2147483647, .ofNat 2147483647)), (107, (.ofNat 0, .ofNat 4)), (108, (.ofNat 0, .ofNat 4)), (109, (.ofNat 0, .ofNat 4)), (110, (.negSucc 0, .ofNat 13)), (111, (.negSucc 2147483647, .ofNat 2147483647)), (112, (.ofNat 0, .ofNat 60)), (113, (.ofNat 0, .ofNat 3)), (114, (.ofNat 0, .ofNat 3)), (115, (.ofNat 0, .ofNat 3)), (116, (.ofNat 0, .ofNat 3)), (117, (.ofNat 0, .ofNat 3)), (118, (.ofNat 0, .ofNat 3)), (119, (.ofNat 0, .ofNat 3)), (120, (.ofNat 0, .ofNat 3)), (121, (.ofNat 0, .ofNat 3)), (122, (.ofNat 0, .ofNat 3)), (123, (.ofNat 0, .ofNat 9)), (124, (.ofNat 0, .ofNat 9)), (125, (.ofNat 0, .ofNat 9)), (126, (.ofNat 0, .ofNat 9)), (127, (.ofNat 0, .ofNat 9)), (128, (.ofNat 0, .ofNat 99)), (129, (.ofNat 0, .ofNat 99)), (130, (.ofNat 0, .ofNat 99)), (131, (.ofNat 0, .ofNat 99)), (132, (.ofNat 0, .ofNat 99)), (133, (.ofNat 0, .ofNat 3)), (134, (.ofNat 0, .ofNat 3)), (135, (.ofNat 0, .ofNat 3)), (136, (.ofNat 0, .ofNat 3)), (137, (.ofNat 0, .ofNat 3)), (138, (.ofNat 0, .ofNat 3)), (139, (.ofNat 0, .ofNat 3)), (140, (.ofNat 0, .ofNat 3)), (141, (.ofNat 0, .ofNat 2)), (142, (.ofNat 0, .ofNat 2)), (143, (.ofNat 0, .ofNat 2)), (144, (.ofNat 0, .ofNat 2)), (145, (.ofNat 0, .ofNat 7)), (146, (.ofNat 0, .ofNat 7)), (147, (.ofNat 0, .ofNat 7)), (148, (.ofNat 0, .ofNat 7)), (149, (.ofNat 0, .ofNat 999)), (150, (.ofNat 0, .ofNat 999)), (151, (.ofNat 0, .ofNat 999)), (152, (.ofNat 0, .ofNat 999)), (153, (.ofNat 0, .ofNat 15)), (154, (.ofNat 0, .ofNat 15)), (155, (.ofNat 0, .ofNat 15)), (156, (.ofNat 0, .ofNat 15)), (157, (.ofNat 0, .ofNat 7)), (158, (.ofNat 0, .ofNat 7)), (159, (.ofNat 0, .ofNat 7)), (160, (.ofNat 0, .ofNat 7)), (161, (.ofNat 0, .ofNat 9999)), (162, (.ofNat 0, .ofNat 9999)), (163, (.ofNat 0, .ofNat 9999)), (164, (.ofNat 0, .ofNat 9999)), (165, (.ofNat 0, .ofNat 999)), (166, (.ofNat 0, .ofNat 999)), (167, (.ofNat 0, .ofNat 999)), (168, (.ofNat 0, .ofNat 999)), (169, (.negSucc 2147483647, .ofNat 2147483647)), (170, (.negSucc 2147483647, .ofNat 2147483647)), (171, (.negSucc 2147483647, .ofNat 2147483647)), (172, (.negSucc 2147483647, .ofNat 2147483647)), (173, (.negSucc 2147483647, .ofNat 2147483647)), (174, (.negSucc 2147483647, .ofNat 2147483647)), (175, (.negSucc 2147483647, .ofNat 2147483647)), (176, (.negSucc 2147483647, .ofNat 2147483647)), (177, (.negSucc 2147483647, .ofNat 2147483647)), (178, (.negSucc 2147483647, .ofNat 2147483647)), (179, (.negSucc 2147483647, .ofNat 2147483647)), (180, (.negSucc 2147483647, .ofNat 2147483647)), (181, (.negSucc 2147483647, .ofNat 2147483647)), (182, (.negSucc 2147483647, .ofNat 2147483647)), (183, (.negSucc 2147483647, .ofNat 2147483647)), (184, (.negSucc 2147483647, .ofNat 2147483647)), (185, (.negSucc 2147483647, .ofNat 2147483647)), (186, (.negSucc 2147483647, .ofNat 2147483647)), (187, (.negSucc 2147483647, .ofNat 2147483647)), (188, (.negSucc 2147483647, .ofNat 2147483647)), (189, (.negSucc 2147483647, .ofNat 2147483647)), (190, (.negSucc 2147483647, .ofNat 2147483647)), (191, (.negSucc 2147483647, .ofNat 2147483647)), (192, (.negSucc 2147483647, .ofNat 2147483647)), (193, (.negSucc 2147483647, .ofNat 2147483647)), (194, (.negSucc 2147483647, .ofNat 2147483647)), (195, (.negSucc 2147483647, .ofNat 2147483647)), (196, (.negSucc 2147483647, .ofNat 2147483647)), (197, (.negSucc 2147483647, .ofNat 2147483647)), (198, (.negSucc 2147483647, .ofNat 2147483647)), (199, (.negSucc 2147483647, .ofNat 2147483647)), (200, (.negSucc 2147483647, .ofNat 2147483647)), (201, (.ofNat 0, .ofNat 2)), (202, (.ofNat 0, .ofNat 2)), (203, (.ofNat 0, .ofNat 2)), (204, (.ofNat 0, .ofNat 2)), (205, (.ofNat 0, .ofNat 2)), (206, (.ofNat 0, .ofNat 2)), (207, (.ofNat 0, .ofNat 2)), (208, (.ofNat 0, .ofNat 2)), (209, (.ofNat 0, .ofNat 2)), (210, (.ofNat 0, .ofNat 2)), (211, (.ofNat 0, .ofNat 2)), (212, (.ofNat 0, .ofNat 2)), (213, (.negSucc 0, .ofNat 12)), (214, (.negSucc 0, .ofNat 12)), (215, (.negSucc 0, .ofNat 12)), (216, (.negSucc 0, .ofNat 12)), (217, (.negSucc 0, .ofNat 12)), (218, (.negSucc 0, .ofNat 12)), (219, (.negSucc 0, .ofNat 12)), (220, (.negSucc 0, .ofNat 12)), (221, (.negSucc 0, .ofNat 12)), (222, (.negSucc 0, .ofNat 12)), (223, (.negSucc 0, .ofNat 12)), (224, (.negSucc 0, .ofNat 12)), (225, (.negSucc 2147483647, .ofNat 2147483647)), (226, (.negSucc 2147483647, .ofNat 2147483647)), (227, (.negSucc 2147483647, .ofNat 2147483647)), (228, (.negSucc 2147483647, .ofNat 2147483647)), (229, (.negSucc 2147483647, .ofNat 2147483647)), (230, (.negSucc 2147483647, .ofNat 2147483647)), (231, (.negSucc 2147483647, .ofNat 2147483647)), (232, (.negSucc 2147483647, .ofNat 2147483647)), (233, (.negSucc 2147483647, .ofNat 2147483647)), (234, (.negSucc 2147483647, .ofNat 2147483647)), (235, (.negSucc 2147483647, .ofNat 2147483647)), (236, (.negSucc 2147483647, .ofNat 2147483647)), (237, (.negSucc 2147483647, .ofNat 2147483647)), (238, (.negSucc 2147483647, .ofNat 2147483647)), (239, (.negSucc 2147483647, .ofNat 2147483647)), (240, (.negSucc 2147483647, .ofNat 2147483647)), (241, (.negSucc 2147483647, .ofNat 2147483647)), (242, (.negSucc 2147483647, .ofNat 2147483647)), (243, (.negSucc 2147483647, .ofNat 2147483647)), (244, (.negSucc 2147483647, .ofNat 2147483647)), (245, (.negSucc 2147483647, .ofNat 2147483647)), (246, (.negSucc 2147483647, .ofNat 2147483647)), (247, (.negSucc 2147483647, .ofNat 2147483647)), (248, (.negSucc 2147483647, .ofNat 2147483647)), (249, (.negSucc 2147483647, .ofNat 2147483647)), (250, (.negSucc 2147483647, .ofNat 2147483647)), (251, (.negSucc 2147483647, .ofNat 2147483647)), (252, (.negSucc 2147483647, .ofNat 2147483647)), (253, (.negSucc 2147483647, .ofNat 2147483647)), (254, (.negSucc 2147483647, .ofNat 2147483647)), (255, (.negSucc 2147483647, .ofNat 2147483647)), (256, (.negSucc 2147483647, .ofNat 2147483647)), (257, (.negSucc 2147483647, .ofNat 2147483647)), (258, (.negSucc 2147483647, .ofNat 2147483647)), (259, (.negSucc 2147483647, .ofNat 2147483647)), (260, (.negSucc 2147483647, .ofNat 2147483647)), (261, (.negSucc 2147483647, .ofNat 2147483647)), (262, (.negSucc 2147483647, .ofNat 2147483647)), (263, (.negSucc 2147483647, .ofNat 2147483647)), (264, (.negSucc 2147483647, .ofNat 2147483647)), (265, (.negSucc 2147483647, .ofNat 2147483647)), (266, (.negSucc 2147483647, .ofNat 2147483647)), (267, (.negSucc 2147483647, .ofNat 2147483647)), (268, (.negSucc 2147483647, .ofNat 2147483647)), (269, (.negSucc 2147483647, .ofNat 2147483647)), (270, (.negSucc 2147483647, .ofNat 2147483647)), (271, (.negSucc 2147483647, .ofNat 2147483647)), (272, (.negSucc 2147483647, .ofNat 2147483647)), (273, (.negSucc 2147483647, .ofNat 2147483647)), (274, (.negSucc 2147483647, .ofNat 2147483647)), (275, (.negSucc 2147483647, .ofNat 2147483647)), (276, (.negSucc 2147483647, .ofNat 2147483647)), (277, (.negSucc 2147483647, .ofNat 2147483647)), (278, (.negSucc 2147483647, .ofNat 2147483647)), (279, (.negSucc 2147483647, .ofNat 2147483647)), (280, (.negSucc 2147483647, .ofNat 2147483647)), (281, (.negSucc 2147483647, .ofNat 2147483647)), (282, (.negSucc 2147483647, .ofNat 2147483647)), (283, (.negSucc 2147483647, .ofNat 2147483647)), (284, (.negSucc 2147483647, .ofNat 2147483647)), (285, (.negSucc 2147483647, .ofNat 2147483647)), (286, (.negSucc 2147483647, .ofNat 2147483647)), (287, (.negSucc 2147483647, .ofNat 2147483647)), (288, (.negSucc 2147483647, .ofNat 2147483647)), (289, (.negSucc 2147483647, .ofNat 2147483647)), (290, (.negSucc 2147483647, .ofNat 2147483647)), (291, (.negSucc 2147483647, .ofNat 2147483647)), (292, (.negSucc 2147483647, .ofNat 2147483647)), (293, (.negSucc 2147483647, .ofNat 2147483647)), (294, (.negSucc 2147483647, .ofNat 2147483647)), (295, (.negSucc 2147483647, .ofNat 2147483647)), (296, (.negSucc 2147483647, .ofNat 2147483647)), (297, (.negSucc 2147483647, .ofNat 2147483647)), (298, (.negSucc 2147483647, .ofNat 2147483647)), (299, (.negSucc 2147483647, .ofNat 2147483647)), (300, (.negSucc 2147483647, .ofNat 2147483647)), (301, (.negSucc 2147483647, .ofNat 2147483647)), (302, (.negSucc 2147483647, .ofNat 2147483647)), (303, (.negSucc 2147483647, .ofNat 2147483647)), (304, (.negSucc 2147483647, .ofNat 2147483647)), (305, (.negSucc 2147483647, .ofNat 2147483647)), (306, (.negSucc 2147483647, .ofNat 2147483647)), (307, (.negSucc 2147483647, .ofNat 2147483647)), (308, (.negSucc 2147483647, .ofNat 2147483647)), (309, (.negSucc 2147483647, .ofNat 2147483647)), (310, (.negSucc 2147483647, .ofNat 2147483647)), (311, (.negSucc 2147483647, .ofNat 2147483647)), (312, (.negSucc 2147483647, .ofNat 2147483647)), (313, (.negSucc 2147483647, .ofNat 2147483647)), (314, (.negSucc 2147483647, .ofNat 2147483647)), (315, (.negSucc 2147483647, .ofNat 2147483647)), (316, (.negSucc 2147483647, .ofNat 2147483647)), (317, (.negSucc 2147483647, .ofNat 2147483647)), (318, (.negSucc 2147483647, .ofNat 2147483647)), (319, (.negSucc 2147483647, .ofNat 2147483647)), (320, (.negSucc 2147483647, .ofNat 2147483647)), (321, (.negSucc 2147483647, .ofNat 2147483647)), (322, (.negSucc 2147483647, .ofNat 2147483647)), (323, (.negSucc 2147483647, .ofNat 2147483647)), (324, (.negSucc 2147483647, .ofNat 2147483647)), (325, (.negSucc 2147483647, .ofNat 2147483647)), (326, (.negSucc 2147483647, .ofNat 2147483647)), (327, (.negSucc 2147483647, .ofNat 2147483647)), (328, (.negSucc 2147483647, .ofNat 2147483647)), (329, (.negSucc 2147483647, .ofNat 2147483647)), (330, (.negSucc 2147483647, .ofNat 2147483647)), (331, (.negSucc 2147483647, .ofNat 2147483647)), (332, (.negSucc 2147483647, .ofNat 2147483647)), (333, (.negSucc 2147483647, .ofNat 2147483647)), (334, (.negSucc 2147483647, .ofNat 2147483647)), (335, (.negSucc 2147483647, .ofNat 2147483647)), (336, (.negSucc 2147483647, .ofNat 2147483647)), (337, (.negSucc 2147483647, .ofNat 2147483647)), (338, (.negSucc 2147483647, .ofNat 2147483647)), (339, (.negSucc 2147483647, .ofNat 2147483647)), (340, (.negSucc 2147483647, .ofNat 2147483647)), (341, (.negSucc 2147483647, .ofNat 2147483647)), (342, (.negSucc 2147483647, .ofNat 2147483647)), (343, (.negSucc 2147483647, .ofNat 2147483647)), (344, (.negSucc 2147483647, .ofNat 2147483647)), (345, (.negSucc 2147483647, .ofNat 2147483647)), (346, (.negSucc 2147483647, .ofNat 2147483647)), (347, (.negSucc 2147483647, .ofNat 2147483647)), (348, (.negSucc 2147483647, .ofNat 2147483647)), (349, (.negSucc 2147483647, .ofNat 2147483647)), (350, (.negSucc 2147483647, .ofNat 2147483647)), (351, (.negSucc 2147483647, .ofNat 2147483647)), (352, (.negSucc 2147483647, .ofNat 2147483647)), (353, (.negSucc 2147483647, .ofNat 2147483647)), (354, (.negSucc 2147483647, .ofNat 2147483647)), (355, (.negSucc 2147483647, .ofNat 2147483647)), (356, (.negSucc 2147483647, .ofNat 2147483647)), (357, (.negSucc 2147483647, .ofNat 2147483647)), (358, (.negSucc 2147483647, .ofNat 2147483647)), (359, (.negSucc 2147483647, .ofNat 2147483647)), (360, (.negSucc 2147483647, .ofNat 2147483647)), (361, (.negSucc 2147483647, .ofNat 2147483647)), (362, (.negSucc 2147483647, .ofNat 2147483647)), (363, (.negSucc 2147483647, .ofNat 2147483647)), (364, (.negSucc 2147483647, .ofNat 2147483647)), (365, (.negSucc 2147483647, .ofNat 2147483647)), (366, (.negSucc 2147483647, .ofNat 2147483647)), (367, (.negSucc 2147483647, .ofNat 2147483647)), (368, (.negSucc 2147483647, .ofNat 2147483647)), (369, (.ofNat 0, .ofNat 1)), (370, (.ofNat 0, .ofNat 1)), (371, (.ofNat 0, .ofNat 1)), (372, (.ofNat 0, .ofNat 1)), (373, (.ofNat 0, .ofNat 1)), (374, (.ofNat 0, .ofNat 1)), (375, (.ofNat 0, .ofNat 1)), (376, (.ofNat 0, .ofNat 1)), (377, (.ofNat 0, .ofNat 7)), (378, (.ofNat 0, .ofNat 7)), (379, (.ofNat 0, .ofNat 7)), (380, (.ofNat 0, .ofNat 7)), (381, (.ofNat 0, .ofNat 63)), (382, (.negSucc 2147483647, .ofNat 2147483647)), (383, (.negSucc 2147483647, .ofNat 2147483647)), (384, (.negSucc 2147483647, .ofNat 2147483647)), (385, (.negSucc 2147483647, .ofNat 2147483647)), (386, (.negSucc 2147483647, .ofNat 2147483647)), (387, (.negSucc 2147483647, .ofNat 2147483647)), (388, (.negSucc 2147483647, .ofNat 2147483647)), (389, (.negSucc 2147483647, .ofNat 2147483647)), (390, (.negSucc 2147483647, .ofNat 2147483647)), (391, (.negSucc 2147483647, .ofNat 2147483647)), (392, (.negSucc 2147483647, .ofNat 2147483647))], [])
noncomputable def gq_rd : List (Int × ai_X) := [(1, (382, 0)), (2, (383, 0)), (3, (384, 0)), (4, (385, 0)), (5, (386, 0)), (6, (387, 0)), (7, (388, 0)), (8, (389, 0)), (9, (390, 0))]
noncomputable def gq_bq (a b : List (Nat × Int × Int)) : Bool := List.rec (motive := fun _ => List (Nat × Int × Int) → Bool) (fun b => List.rec (motive := fun _ => Bool) true (fun _ _ _ => false) b) (fun x _ ih b => List.rec (motive := fun _ => Bool) false (fun y l _ => Nat.beq x.1 y.1 && (ai_eq x.2.1 y.2.1 && (ai_eq x.2.2 y.2.2 && ih l))) b) a b
theorem gq_bq_ok : ∀ {a b : List (Nat × Int × Int)}, gq_bq a b = true → a = b
  | [], [], _ => rfl
  | [], _ :: _, h => by cases h
  | _ :: _, [], h => by cases h
  | (t, x, y) :: a, (u, z, w) :: b, h => by
    have h : (Nat.beq t u && (ai_eq x z && (ai_eq y w && gq_bq a b))) = true := h
    simp only [Bool.and_eq_true] at h
    obtain ⟨h1, h2, h3, h4⟩ := h
    rw [Nat.eq_of_beq_eq_true h1, ai_eq_iff.mp h2, ai_eq_iff.mp h3, gq_bq_ok h4]
noncomputable def gq_qE (E : ai_E) : Bool := Nat.beq E.1 gq_E.1 && (gq_bq E.2.1 gq_E.2.1 && E.2.2.isEmpty)
theorem gq_qE_ok {E : ai_E} (h : gq_qE E = true) : E = gq_E := by
  unfold gq_qE at h
  simp only [Bool.and_eq_true] at h
  obtain ⟨h1, h2, h3⟩ := h
  exact Prod.ext (Nat.eq_of_beq_eq_true h1) (Prod.ext (gq_bq_ok h2) (List.isEmpty_iff.mp h3))
noncomputable def gq_eb1 (q : Nat × Int × Int) : Bool := (Nat.blt q.1 382 && (Nat.beq q.1 1 && (ai_eq q.2.1 0 && ai_eq q.2.2 5110) || (match fz_look lx_E5.2.1 q.1 with
  | (a, b) => ai_le q.2.1 a && ai_le b q.2.2))) || ((Nat.ble 382 q.1 && Nat.blt q.1 393) && (ai_eq q.2.1 ai_lo32 && ai_eq q.2.2 ai_hi32))
theorem gq_eb : gq_E.2.1.all gq_eb1 = true := by decide +kernel
theorem gq_rdok : gq_rd = (List.range 9).map (fun j => (((j + 1 : Nat) : Int), ((382 + j, 0) : ai_X))) := by rfl
noncomputable def gq_r4 (r : Nat → Int) (xs : Nat → Int32) : Nat → Int := fun t => if t < 382 then r t else if t < 391 then (xs (r 1 + (((t - 382) + 1 : Nat) : Int)).toNat).toInt else 0
theorem gq_vb {r : Nat → Int} (h0 : r 0 = 0) {v : Int} (h : ai_lo32 ≤ v ∧ v ≤ ai_hi32) : ai_lo64 ≤ v ∧ v ≤ ai_hi64 := by
  unfold ai_lo32 ai_hi32 at h
  unfold ai_lo64 ai_hi64
  omega
section GQS
variable {D : va_G} {tyc : Nat → ClassId} {A : Nat → Prop} {s : State} {sa : ai_B} {ws : va_W} {r : Nat → Int} {ad : Nat → Nat} {H : Heap} {locs : List Loc} {ls : Array Slot} {st : List Value} {xs : Nat → Int32} {v w : Nat}
theorem gq_start (hE : ai_gE r (lx_El v 1)) (h5 : 0 ≤ r 1 ∧ r 1 ≤ 5110) (hR : ai_Rel D tyc A s sa ws 7 r ad lx_L [.inl (0, .ofNat w)] (lx_G v 1) H locs ls st) : ai_ext 382 r (gq_r4 r xs) ∧ (∀ q ∈ gq_rd, ai_vx (gq_r4 r xs) q.2 = (xs (r 1 + q.1).toNat).toInt) ∧ ai_Rel D tyc A s sa ws 7 (gq_r4 r xs) ad lx_L [.inl (0, .ofNat w)] (gq_E, lx_h, 0, 0) H locs ls st := by
  have hE5 : ai_gE r lx_E5 := lx_E5_ok hE
  have hx : ai_ext 382 r (gq_r4 r xs) := fun t ht => if_pos ht
  have h0 : (gq_r4 r xs) 0 = 0 := hE5.1
  have hi32 : ∀ t, 382 ≤ t → ai_lo32 ≤ gq_r4 r xs t ∧ gq_r4 r xs t ≤ ai_hi32 := fun t ht => by
    unfold gq_r4
    rw [if_neg (by omega)]
    split
    · exact ai_i32 _
    · unfold ai_lo32 ai_hi32
      omega
  have hE4 : ai_gE (gq_r4 r xs) gq_E := by
    refine ⟨h0, by show 0 < 393; omega, fun t ht => ?_, fun q hq => ?_, fun q hq => by cases hq⟩
    · by_cases e : t < 382
      · rw [hx t e]
        exact hE5.2.2.1 t (by rw [lx_E5N]; exact e)
      · exact gq_vb h0 (hi32 t (by omega))
    · have g := List.all_eq_true.mp gq_eb q hq
      unfold gq_eb1 at g
      rw [Bool.or_eq_true] at g
      rcases g with g | g
      · rw [Bool.and_eq_true, Bool.or_eq_true] at g
        obtain ⟨g1, g2⟩ := g
        have g1 : q.1 < 382 := Nat.le_of_ble_eq_true g1
        refine ⟨by show q.1 < 393; omega, ?_⟩
        rw [hx _ g1]
        rcases g2 with g2 | g2
        · simp only [Bool.and_eq_true] at g2
          obtain ⟨e1, e2, e3⟩ := g2
          rw [Nat.eq_of_beq_eq_true e1, ai_eq_iff.mp e2, ai_eq_iff.mp e3]
          exact h5
        · have k := ai_look_ok (fun z hz => (hE5.2.2.2.1 z hz).2) q.1 (hE5.2.2.1 q.1 (by rw [lx_E5N]; exact g1))
          rw [fz_look_eq] at g2
          cases e : ai_look lx_E5.2.1 q.1 with
          | mk a b =>
            rw [e] at g2 k
            simp only [Bool.and_eq_true] at g2
            exact ⟨Int.le_trans (ai_le_iff.mp g2.1) k.1, Int.le_trans k.2 (ai_le_iff.mp g2.2)⟩
      · simp only [Bool.and_eq_true] at g
        obtain ⟨⟨g1, g2⟩, g3, g4⟩ := g
        refine ⟨Nat.le_of_ble_eq_true g2, ?_⟩
        rw [ai_eq_iff.mp g3, ai_eq_iff.mp g4]
        exact hi32 _ (Nat.le_of_ble_eq_true g1)
  refine ⟨hx, fun q hq => ?_, ?_⟩
  · rw [gq_rdok] at hq
    obtain ⟨j, hj, rfl⟩ := List.mem_map.mp hq
    have hj := List.mem_range.mp hj
    show gq_r4 r xs (382 + j) + 0 = _
    rw [Int.add_zero]
    unfold gq_r4
    rw [if_neg (by omega), if_pos (by omega), show 382 + j - 382 + 1 = j + 1 by omega]
  · have eN : (lx_El v 1).1 = 382 := (lx_E5e v).trans lx_E5N
    have hx' : ai_ext (lx_G v 1).1.1 r (gq_r4 r xs) := by
      show ai_ext (lx_El v 1).1 r (gq_r4 r xs)
      rw [eN]
      exact hx
    have hN' : (lx_G v 1).1.1 ≤ gq_E.1 := by
      show (lx_El v 1).1 ≤ 393
      rw [eN]
      omega
    exact hR.re (E' := gq_E) (r' := gq_r4 r xs) (S' := [.inl (0, .ofNat w)]) (st' := st) hx' hN' hE4 (hR.stk.mono hx' ai_ext.rfl' hN' (Nat.le_refl _))
end GQS
noncomputable def gq_sps : List (Nat × Int) → ai_G → ai_G
  | [], G => G
  | q :: l, G => gq_sps l (lx_sp q.1 q.2 G)
theorem gq_spsE : ∀ {l : List (Nat × Int)} {G : ai_G}, (gq_sps l G).1 = G.1 ∧ (gq_sps l G).2.1.1 = G.2.1.1 ∧ (gq_sps l G).2.2 = G.2.2
  | [], _ => ⟨rfl, rfl, rfl⟩
  | q :: l, G => by
    obtain ⟨a, b, c⟩ := gq_spsE (l := l) (G := lx_sp q.1 q.2 G)
    exact ⟨a, b.trans lx_spn, c⟩
theorem gq_sp16 {G : ai_G} {t : Nat} {k : Int} (h : ∀ q, q < 16 → ai_cell G.2.1 q = none) : ∀ q, q < 16 → ai_cell (lx_sp t k G).2.1 q = none := fun q hq => by
  cases t with
  | zero => exact h q hq
  | succ t =>
    show ai_cell (sp_h (t + 1) k G.2.1) q = none
    rw [sp_cell, h q hq]
    rfl
theorem gq_sps_ok {D : va_G} {tyc : Nat → ClassId} {A : Nat → Prop} {s : State} {sa : ai_B} {ws : va_W} {nL : Nat} {r : Nat → Int} {ad : Nat → Nat} {L S : List ai_V} {H : Heap} {locs : List Loc} {ls : Array Slot} {st : List Value} : ∀ {q : List (Nat × Int)} {G : ai_G}, ai_Rel D tyc A s sa ws nL r ad L S G H locs ls st → (∀ t ∈ q, r t.1 = t.2) → (∀ z, z < 16 → ai_cell G.2.1 z = none) → ai_Rel D tyc A s sa ws nL r ad L S (gq_sps q G) H locs ls st
  | [], G, hR, _, _ => hR
  | t :: q, G, hR, h, h16 => gq_sps_ok (q := q) (G := lx_sp t.1 t.2 G) (lx_sp_ok hR (h t List.mem_cons_self) h16) (fun z hz => h z (List.mem_cons_of_mem _ hz)) (gq_sp16 h16)
/-- a kind of two calls: where they are, what they are given, what is known behind them -/
noncomputable def gq_c3 (C : List Nat) (Pf : List (Nat × Nat × Nat)) (f : ai_F) : Bool := lx_fin C Pf [] 0 (lx_oJ lx_jo) f
noncomputable def gq_c2 (pc2 m2 : Nat) (kd2 : Bool) (Y2 : pt_Y) (S2 bb2 : List ai_V) (AL2 : List (Nat × ai_X)) (b1 : Nat × Nat) (x2 : ai_X) (G3 : ai_G) (C : List Nat) (Pf : List (Nat × Nat × Nat)) (g : ai_F) : Bool := (Nat.beq g.1 pc2 && (Nat.beq g.2.2.2.2.2.1 b1.1 && Nat.beq g.2.2.2.2.2.2 b1.2)) && ((hy_heq g.2.2.2.2.1 gl_he && gq_qE g.2.2.2.1) && (gq_lo [0, 1, 391] g.2.1 && (gq_ss AL2 g.2.2.1 S2 && (gq_cl kd2 pc2 m2 Y2.2.1 S2 bb2 && (match lx_run [] [23] 16 gq_rd false (pc2 + 3) g.2.1 [.inl x2] G3 with
  | some fs => fs.all (gq_c3 C Pf)
  | none => false)))))
noncomputable def gq_c1 (pc1 m1 : Nat) (kd1 : Bool) (Y1 : pt_Y) (S1 bb1 : List ai_V) (AL1 : List (Nat × ai_X)) (x1 : ai_X) (b1 : Nat × Nat) (pc2 : Nat) (ck2 : ai_F → Bool) (g : ai_F) : Bool := (Nat.beq g.1 pc1 && cy_z g) && ((hy_heq g.2.2.2.2.1 lx_h && gq_qE g.2.2.2.1) && (gq_lo [0, 1] g.2.1 && (gq_ss AL1 g.2.2.1 S1 && (gq_cl kd1 pc1 m1 Y1.2.1 S1 bb1 && (match lx_run [] [pc2] 16 gq_rd false (pc1 + 3) g.2.1 [.inl x1] (gq_E, gl_he, b1.1, b1.2) with
  | some fs => fs.all ck2
  | none => false)))))
noncomputable def gq_fg (Y : pt_Y) (k : Nat) : Option (Nat × Nat × Nat) := Y.2.2.1.find? (fun g => Nat.beq g.1 k)
/-- the last template's cells out of what is known of the world -/
noncomputable def gq_fk (Y1 Y2 : pt_Y) (P0 P1 P2 : Nat → Bool) (XF XG1 XG2 : List (Nat × Nat × Nat)) (hF : ai_H) (k : Nat) : Bool := match ai_cell hF k with
  | none => true
  | some dF => Nat.ble 16 k && (match ai_cell Y1.2.1 k with
    | some d1 => gq_cc Y1.1 P1 XF 393 k d1 dF
    | none => match gq_fg Y1 k with
      | some g1 => gq_gf XG1 393 g1.1 g1.2.1 g1.2.2 dF
      | none => match ai_cell Y2.2.1 k with
        | some d2 => gq_cc Y2.1 P2 [] 393 k d2 dF
        | none => match gq_fg Y2 k with
          | some g2 => gq_gf XG2 393 g2.1 g2.2.1 g2.2.2 dF
          | none => match ai_cell lx_h k with
            | some d => gq_cc gq_E P0 [] 393 k d dF
            | none => false)
noncomputable def gq_xf (Y1 : pt_Y) (z : Nat × Nat × Nat × Nat) : Bool := match ai_cell Y1.2.1 z.2.1 with
  | some (.inr (.inl (_, m, _, _, l))) => ((Nat.ble 16 z.2.1 && Nat.blt z.2.1 336) && (Nat.blt z.2.2.1 m && l.all (fun y => Nat.beq y.1.1 0))) && (match l.find? (fun y => ai_eq y.1.2 (.ofNat z.2.2.1)) with
    | some y => Nat.beq y.1.1 0 && cx_q y.2 (z.2.2.2, 0)
    | none => false)
  | _ => false
/-- what all arrays hold: those left alone, the world's -/
noncomputable def gw_in (q : Nat) : Bool := gw_l.any (fun g => Nat.beq g.1 q)
noncomputable def gw_c (M c : Nat → Nat → Int) : Nat → Nat → Int := fun q => if gw_in q = true then M q else c q
noncomputable def gw_o (Y : pt_Y) (M2 c : Nat → Nat → Int) : Nat → Nat → Int := fun q => if Y.2.2.1.any (fun g => Nat.beq g.1 q) = true then M2 q else c q
noncomputable def gq_no (h : ai_H) : Bool := gw_l.all (fun g => (ai_cell h g.1).isNone)
noncomputable def gq_nq (Y : pt_Y) : Bool := gw_l.all (fun g => Y.2.2.1.any (fun y => decide (y = g)) || gq_ot Y g.1) && Y.2.2.1.all (fun y => gw_l.all (fun g => !(Nat.beq y.1 g.1) || decide (y = g)))
noncomputable def gw_g1 (P : Nat → Bool) (g : Nat × Nat × Nat) : Bool := (gw_l.any (fun z => decide (g = z)) && P g.1) || gq_g1 lx_h P g
theorem gw_g1_P {P : Nat → Bool} {g : Nat × Nat × Nat} (h : gw_g1 P g = true) : P g.1 = true := by
  unfold gw_g1 at h
  rw [Bool.or_eq_true, Bool.and_eq_true] at h
  rcases h with h | h
  · exact h.2
  · unfold gq_g1 at h
    simp only [Bool.and_eq_true] at h
    exact h.1.2
theorem gw_lb : ∀ z ∈ gw_l, 16 ≤ z.1 ∧ z.1 < 336 := by
  have h : gw_l.all (fun z => Nat.ble 16 z.1 && Nat.blt z.1 336) = true := by decide +kernel
  intro z hz
  have g := List.all_eq_true.mp h z hz
  rw [Bool.and_eq_true] at g
  exact ⟨Nat.le_of_ble_eq_true g.1, Nat.le_of_ble_eq_true g.2⟩
theorem gw_lu : ∀ z ∈ gw_l, ∀ y ∈ gw_l, y.1 = z.1 → y = z := by
  have h : gw_l.all (fun z => gw_l.all (fun y => !(Nat.beq y.1 z.1) || decide (y = z))) = true := by decide +kernel
  intro z hz y hy e
  have g := List.all_eq_true.mp (List.all_eq_true.mp h z hz) y hy
  rw [Bool.or_eq_true, Bool.not_eq_true'] at g
  rcases g with g | g
  · exact absurd e (Nat.ne_of_beq_eq_false g)
  · exact of_decide_eq_true g
theorem gw_c_in {M c : Nat → Nat → Int} {z : Nat × Nat × Nat} (hz : z ∈ gw_l) : gw_c M c z.1 = M z.1 := if_pos (List.any_eq_true.mpr ⟨z, hz, Nat.beq_refl _⟩)
theorem gw_no_ok {h : ai_H} (g : gq_no h = true) : ∀ z ∈ gw_l, ai_cell h z.1 = none := fun z hz => Option.isNone_iff_eq_none.mp (List.all_eq_true.mp g z hz)
theorem gw_c_no {h : ai_H} {M c : Nat → Nat → Int} (g : gq_no h = true) {k : Nat} {d : ai_C} (hd : ai_cell h k = some d) : gw_c M c k = c k := if_neg (fun w => by
  obtain ⟨z, hz, e⟩ := List.any_eq_true.mp w
  have n := gw_no_ok g z hz
  rw [Nat.eq_of_beq_eq_true e, hd] at n
  cases n)
theorem gw_Kq {tyc : Nat → ClassId} {ws : va_W} {r : Nat → Int} {ad : Nat → Nat} {N : Nat} {h : ai_H} {c c' : Nat → Nat → Int} {P : Nat → Bool} (e : ∀ k d, ai_cell h k = some d → c' k = c k) (g : gq_K tyc ws r ad N h c P) : gq_K tyc ws r ad N h c' P := fun k k1 k2 hp d hd => by
  obtain ⟨g1, g2⟩ := g k k1 k2 hp d hd
  refine ⟨g1, fun ty m lo hi l q => ?_⟩
  have w := g2 ty m lo hi l q
  rw [e k d hd]
  exact w
theorem gw_A {tyc : Nat → ClassId} {ws ws' : va_W} {q n ty : Nat} {f : Nat → Int} (h : pt_A tyc ws q n ty f) (e : ws'[q - 16]? = ws[q - 16]?) : pt_A tyc ws' q n ty f := by
  unfold pt_A at h ⊢
  split at h
  · obtain ⟨g, ⟨a, g1⟩, g2⟩ := h
    exact ⟨g, ⟨a, e.trans g1⟩, g2⟩
  · obtain ⟨g, ⟨a, g1⟩, g2⟩ := h
    exact ⟨g, ⟨a, e.trans g1⟩, g2⟩
theorem gw_Mof {tyc : Nat → ClassId} {ws : va_W} {r : Nat → Int} {ad : Nat → Nat} {N : Nat} {c : Nat → Nat → Int} {P : Nat → Bool} {Gh : List (Nat × Nat × Nat)} (hM : ∀ z ∈ gw_l, P z.1 = true → pt_A tyc ws z.1 z.2.1 z.2.2 (c z.1)) (K : gq_K tyc ws r ad N lx_h c P) (hck : Gh.all (gw_g1 P) = true) : pt_M tyc Gh ws c := fun q hq => by
  have g := List.all_eq_true.mp hck q hq
  unfold gw_g1 at g
  rw [Bool.or_eq_true, Bool.and_eq_true] at g
  rcases g with ⟨g1, g2⟩ | g
  · obtain ⟨z, hz, e⟩ := List.any_eq_true.mp g1
    have e := of_decide_eq_true e
    subst e
    exact hM q hz g2
  · exact gq_Mof (Gh := [q]) K (by rw [List.all_cons, g]; rfl) q List.mem_cons_self
theorem gw_Mo {tyc : Nat → ClassId} {ws ws' : va_W} {Y : pt_Y} {M2 c : Nat → Nat → Int} (hM : pt_M tyc gw_l ws c) (MM : pt_M tyc Y.2.2.1 ws' M2) (sm : ∀ k, k + 16 < 336 → gq_ot Y (k + 16) = true → ws'[k]? = ws[k]?) (hn : gq_nq Y = true) : pt_M tyc gw_l ws' (gw_o Y M2 c) := fun z hz => by
  unfold gq_nq at hn
  rw [Bool.and_eq_true] at hn
  have b := gw_lb z hz
  have g := List.all_eq_true.mp hn.1 z hz
  show pt_A tyc ws' z.1 z.2.1 z.2.2 (if Y.2.2.1.any (fun g => Nat.beq g.1 z.1) = true then M2 z.1 else c z.1)
  by_cases w : Y.2.2.1.any (fun g => Nat.beq g.1 z.1) = true
  · rw [if_pos w]
    obtain ⟨y, hy, e⟩ := List.any_eq_true.mp w
    have u := List.all_eq_true.mp (List.all_eq_true.mp hn.2 y hy) z hz
    rw [Bool.or_eq_true, Bool.not_eq_true'] at u
    rcases u with u | u
    · exact absurd (Nat.eq_of_beq_eq_true e) (Nat.ne_of_beq_eq_false u)
    · have u := of_decide_eq_true u
      subst u
      exact MM y hy
  · rw [if_neg w]
    rw [Bool.or_eq_true] at g
    rcases g with g | g
    · obtain ⟨y, hy, e⟩ := List.any_eq_true.mp g
      have e := of_decide_eq_true e
      subst e
      exact absurd (List.any_eq_true.mpr ⟨y, hy, Nat.beq_refl _⟩) w
    · exact gw_A (hM z hz) (sm (z.1 - 16) (by omega) (by rw [show z.1 - 16 + 16 = z.1 by omega]; exact g))
theorem gw_pw {tyc : Nat → ClassId} {ws : va_W} {c : Nat → Nat → Int} (hM : pt_M tyc gw_l ws c) (h : gz_pw c) : ai_Pw tyc ws := pt_pw_of (by unfold gw_l; simp) (by unfold gw_l; simp) (by unfold gw_l; simp) (by unfold gw_l; simp) hM h (gw_px hM)
noncomputable def gq_bk (Y1 Y2 : pt_Y) (P0 P1 P2 : Nat → Bool) (XG : List (Nat × Nat × Nat)) (t : Nat) : Bool := P0 t || (((P1 t && cx_bd Y1.1 (t, 0) (fz_look gq_E.2.1 t)) || (P2 t && cx_bd Y2.1 (t, 0) (fz_look gq_E.2.1 t))) || (XG.any (fun x => Nat.beq x.1 t) && (match fz_look gq_E.2.1 t with
  | (a, b) => ai_le a ai_lo32 && ai_le ai_hi32 b)))
noncomputable def gq_xg (Y : pt_Y) (x : Nat × Nat × Nat) : Bool := Y.2.2.1.any (fun g => Nat.beq g.1 x.2.1 && (Nat.blt x.2.2 g.2.1 && Nat.beq g.2.2 0))
theorem gq_xg_ok {tyc : Nat → ClassId} {ws : va_W} {Y : pt_Y} {M : Nat → Nat → Int} {x : Nat × Nat × Nat} (hM : pt_M tyc Y.2.2.1 ws M) (h : gq_xg Y x = true) : ai_lo32 ≤ M x.2.1 x.2.2 ∧ M x.2.1 x.2.2 ≤ ai_hi32 := by
  obtain ⟨g, hg, w⟩ := List.any_eq_true.mp h
  simp only [Bool.and_eq_true] at w
  obtain ⟨w1, w2, w3⟩ := w
  have b := pt_M_b hM g hg x.2.2 (Nat.le_of_ble_eq_true w2)
  rw [Nat.eq_of_beq_eq_true w1] at b
  exact b.1 (by rw [Nat.eq_of_beq_eq_true w3]; decide)
noncomputable def gq_ck1 (Y1 Y2 : pt_Y) (p1 p2 : Nat → Bool) (X1 X2 : List (Nat × Nat × Nat)) (AL1 AL2 : List (Nat × ai_X)) : Bool := (gq_ik gq_E lx_h (fun _ => true) p1 X1 AL1 Y1 && gq_ik gq_E lx_h (gq_ot Y1) p2 X2 AL2 Y2) && ((gq_gn Y1 && gq_gn Y2) && (Y1.2.2.1.all (gw_g1 (fun _ => true)) && Y2.2.2.1.all (gw_g1 (gq_ot Y1))))
noncomputable def gq_ck2 (Y1 Y2 : pt_Y) (P0 P1 P2 : Nat → Bool) (XF : List (Nat × Nat × Nat × Nat)) (XG1 XG2 : List (Nat × Nat × Nat)) (hF : ai_H) : Bool := ((List.range 336).all (gq_fk Y1 Y2 P0 P1 P2 (XF.map (fun z => (z.1, z.2.1, z.2.2.1))) XG1 XG2 hF) && (XF.all (gq_xf Y1) && (Nat.beq hF.1 336 && (List.range 16).all (fun q => (ai_cell hF q).isNone)))) && ((gq_no lx_h && (gq_nq Y1 && gq_nq Y2)) && ((List.range 391).all (gq_bk Y1 Y2 P0 P1 P2 (XG1 ++ XG2)) && ((XG1.all (gq_xg Y1) && XG2.all (gq_xg Y2)) && (P0 0 && (P0 1 && (P0 73 && (List.range 9).all (fun j => P0 (382 + j))))))))
noncomputable def gq_cv (P0 : Nat → Bool) : Bool := (List.range 5).all (fun v => (lx_El v 1).2.1.all (fun q => P0 q.1 || (match fz_look gq_E.2.1 q.1 with
  | (a, b) => ai_le q.2.1 a && ai_le b q.2.2)))
noncomputable def gq_pN (t : Nat) : Bool := Nat.blt t 391
theorem gq_hN : (List.range 336).all (fun k => match ai_cell lx_h k with
    | none => true
    | some d => gl_cC gq_pN d) = true := by decide +kernel
theorem gq_un : pt_un gq_E = true := by decide +kernel
theorem gq_look {q : Nat × Int × Int} (hq : q ∈ gq_E.2.1) : fz_look gq_E.2.1 q.1 = q.2 ∧ q.1 < 393 := by
  have h := gq_un
  unfold pt_un at h
  rw [Bool.and_eq_true] at h
  have g := List.all_eq_true.mp h.1 q hq
  cases e : fz_look gq_E.2.1 q.1 with
  | mk a b =>
    rw [e] at g
    simp only [Bool.and_eq_true] at g
    exact ⟨Prod.ext (ai_eq_iff.mp g.1) (ai_eq_iff.mp g.2.1), Nat.le_of_ble_eq_true g.2.2⟩
theorem gq_32 {q : Nat × Int × Int} (hq : q ∈ gq_E.2.1) (h : 382 ≤ q.1) : q.2 = (ai_lo32, ai_hi32) := by
  have g := List.all_eq_true.mp gq_eb q hq
  unfold gq_eb1 at g
  rw [Bool.or_eq_true] at g
  rcases g with g | g
  · rw [Bool.and_eq_true] at g
    have := Nat.le_of_ble_eq_true g.1
    omega
  · simp only [Bool.and_eq_true] at g
    exact Prod.ext (ai_eq_iff.mp g.2.1) (ai_eq_iff.mp g.2.2)
theorem gq_gE {r0 rF r2 r3 : Nat → Int} {Y1 Y2 : pt_Y} {P0 P1 P2 : Nat → Bool} {XG : List (Nat × Nat × Nat)} (hX : ∀ x ∈ XG, ai_lo32 ≤ rF x.1 ∧ rF x.1 ≤ ai_hi32) (hE : ai_gE r0 gq_E) (hE2 : ai_gE r2 Y1.1) (hE3 : ai_gE r3 Y2.1) (u0 : ∀ t, P0 t = true → rF t = r0 t) (u1 : ∀ t, P1 t = true → rF t = r2 t) (u2 : ∀ t, P2 t = true → rF t = r3 t) (z0 : P0 0 = true) (hck : (List.range 391).all (gq_bk Y1 Y2 P0 P1 P2 XG) = true) (s1 : ai_lo32 ≤ rF 391 ∧ rF 391 ≤ ai_hi32) (s2 : ai_lo32 ≤ rF 392 ∧ rF 392 ≤ ai_hi32) : ai_gE rF gq_E := by
  have key : ∀ t, t < 391 → rF t = r0 t ∨ ((fz_look gq_E.2.1 t).1 ≤ rF t ∧ rF t ≤ (fz_look gq_E.2.1 t).2 ∧ ai_lo64 ≤ rF t ∧ rF t ≤ ai_hi64) := fun t ht => by
    have g := List.all_eq_true.mp hck t (List.mem_range.mpr ht)
    unfold gq_bk at g
    simp only [Bool.or_eq_true, Bool.and_eq_true] at g
    rcases g with g | (⟨g1, g2⟩ | ⟨g1, g2⟩) | ⟨g1, g2⟩
    · exact Or.inl (u0 t g)
    · right
      have w := (cx_bd_ok hE2 g2).2
      have z : ai_vx r2 (t, 0) = rF t := (Int.add_zero _).trans (u1 t g1).symm
      rw [z] at w
      exact w
    · right
      have w := (cx_bd_ok hE3 g2).2
      have z : ai_vx r3 (t, 0) = rF t := (Int.add_zero _).trans (u2 t g1).symm
      rw [z] at w
      exact w
    · right
      obtain ⟨x, hx, e⟩ := List.any_eq_true.mp g1
      have b := hX x hx
      rw [Nat.eq_of_beq_eq_true e] at b
      cases el : fz_look gq_E.2.1 t with
      | mk lo hi =>
        rw [el] at g2
        have g2 : (ai_le lo ai_lo32 && ai_le ai_hi32 hi) = true := by
          rw [Bool.and_eq_true]
          exact g2
        rw [Bool.and_eq_true] at g2
        exact ⟨Int.le_trans (ai_le_iff.mp g2.1) b.1, Int.le_trans b.2 (ai_le_iff.mp g2.2), gq_vb hE.1 b⟩
  have big : ∀ t, 391 ≤ t → t < 393 → ai_lo32 ≤ rF t ∧ rF t ≤ ai_hi32 := fun t h1 h2 => by
    rcases (by omega : t = 391 ∨ t = 392) with e | e
    · rw [e]
      exact s1
    · rw [e]
      exact s2
  refine ⟨(u0 0 z0).trans hE.1, by show 0 < 393; omega, fun t ht => ?_, fun q hq => ?_, fun q hq => by cases hq⟩
  · have ht : t < 393 := ht
    by_cases e : t < 391
    · rcases key t e with w | w
      · rw [w]
        exact hE.2.2.1 t ht
      · exact w.2.2
    · exact gq_vb hE.1 (big t (by omega) ht)
  · obtain ⟨l1, l2⟩ := gq_look hq
    refine ⟨l2, ?_⟩
    by_cases e : q.1 < 391
    · rcases key q.1 e with w | w
      · rw [w]
        exact (hE.2.2.2.1 q hq).2
      · rw [l1] at w
        exact ⟨w.1, w.2.1⟩
    · rw [gq_32 hq (by omega)]
      exact big q.1 (by omega) l2
theorem gq_setE {r : Nat → Int} {a : Int} (hE : ai_gE r gq_E) (h : ai_lo32 ≤ a ∧ a ≤ ai_hi32) : ai_gE (pt_set r 391 a) gq_E := by
  have ne : ∀ t, t ≠ 391 → pt_set r 391 a t = r t := fun t ht => if_neg ht
  have eq : pt_set r 391 a 391 = a := if_pos rfl
  refine ⟨(ne 0 (by omega)).trans hE.1, hE.2.1, fun t ht => ?_, fun q hq => ⟨(hE.2.2.2.1 q hq).1, ?_⟩, fun q hq => by cases hq⟩
  · by_cases e : t = 391
    · rw [e, eq]
      exact gq_vb hE.1 h
    · rw [ne t e]
      exact hE.2.2.1 t ht
  · by_cases e : q.1 = 391
    · rw [e, eq, gq_32 hq (by omega)]
      exact h
    · rw [ne _ e]
      exact (hE.2.2.2.1 q hq).2
theorem gq_dn {v : Nat} (hv : v ≤ 4) : (lx_El v 1).2.2 = [] := by
  have h : (List.range 5).all (fun v => (lx_El v 1).2.2.isEmpty) = true := by decide +kernel
  exact List.isEmpty_iff.mp (List.all_eq_true.mp h v (List.mem_range.mpr (by omega)))
theorem gq_gEv {r rF : Nat → Int} {P0 : Nat → Bool} {v : Nat} (hv : v ≤ 4) (hE : ai_gE r (lx_El v 1)) (hEF : ai_gE rF gq_E) (u0 : ∀ t, P0 t = true → t < 382 → rF t = r t) (hck : gq_cv P0 = true) : ai_gE rF (lx_El v 1) := by
  have eN : (lx_El v 1).1 = 382 := (lx_E5e v).trans lx_E5N
  refine ⟨hEF.1, by rw [eN]; omega, fun t ht => hEF.2.2.1 t (by show t < 393; omega), fun q hq => ?_, fun q hq => ?_⟩
  · obtain ⟨a1, a2⟩ := hE.2.2.2.1 q hq
    refine ⟨a1, ?_⟩
    have g := List.all_eq_true.mp (List.all_eq_true.mp hck v (List.mem_range.mpr (by omega))) q hq
    rw [Bool.or_eq_true] at g
    rcases g with g | g
    · rw [u0 _ g (by rw [← eN]; exact a1)]
      exact a2
    · have k := ai_look_ok (fun z hz => (hEF.2.2.2.1 z hz).2) q.1 (hEF.2.2.1 q.1 (by show q.1 < 393; omega))
      rw [fz_look_eq] at g
      cases e : ai_look gq_E.2.1 q.1 with
      | mk a b =>
        rw [e] at g k
        simp only [Bool.and_eq_true] at g
        exact ⟨Int.le_trans (ai_le_iff.mp g.1) k.1, Int.le_trans k.2 (ai_le_iff.mp g.2)⟩
  · rw [gq_dn hv] at hq
    cases hq
theorem gq_some {a b : Int} (h : some a = some b) : a = b := Option.some.inj h
theorem gq_fg_ok {Y : pt_Y} {k : Nat} {g : Nat × Nat × Nat} (h : gq_fg Y k = some g) : g ∈ Y.2.2.1 ∧ g.1 = k := by
  have h : Y.2.2.1.find? (fun g => Nat.beq g.1 k) = some g := h
  exact ⟨List.mem_of_find?_eq_some h, Nat.eq_of_beq_eq_true (List.find?_some (p := fun (g : Nat × Nat × Nat) => Nat.beq g.1 k) h)⟩
theorem gq_fg_no {Y : pt_Y} {k : Nat} (h : gq_fg Y k = none) (e : ai_cell Y.2.1 k = none) : gq_ot Y k = true := by
  unfold gq_ot
  rw [e, Bool.and_eq_true]
  refine ⟨rfl, List.all_eq_true.mpr (fun g hg => ?_)⟩
  have := List.find?_eq_none.mp h g hg
  rw [Bool.not_eq_true] at this
  rw [this]
  rfl
/-- what all arrays of the world hold, as far as it is told -/
noncomputable def gq_ct (r : Nat → Int) (c : Nat → Nat → Int) : Prop := ∀ (q ty m : Nat) (lo hi : Int) (l : List (ai_X × ai_X)), 16 ≤ q → q < 336 → ai_cell lx_h q = some (.inr (.inl (ty, m, lo, hi, l))) → ∀ j, j < m → ai_ov r lo hi l j (c q j)
section GQT
variable {p : Program} {l : Launch} {e : Env} {R : Room} {s : State} {m : MethodId} {args : Array Value} {below : List Frame} {meth : Method} {c : Code} {Q : State → Prop}
variable {D : va_G} {tyc : Nat → ClassId} {A : Nat → Prop} {sa : ai_B} {ws : va_W} {b Ln z0 v k w : Nat} {xs : Nat → Int32}
variable {r r4 : Nat → Int} {ad : Nat → Nat} {H : Heap} {locs : List Loc} {ls : Array Slot} {st : List Value}
variable {Y1 Y2 : pt_Y} {pc1 pc2 m1 m2 n1 n2 : Nat} {kd1 kd2 : Bool} {S1 S2 bb1 bb2 : List ai_V} {AL1 AL2 : List (Nat × ai_X)} {X1 X2 : List (Nat × Nat × Nat)} {p1 p2 P0 P1 P2 : Nat → Bool} {x1 x2 : ai_X} {b1 b2 : Nat × Nat} {XF : List (Nat × Nat × Nat × Nat)} {XG1 XG2 : List (Nat × Nat × Nat)} {hF : ai_H} {sp3 : List (Nat × Int)} {C : List Nat} {Pf : List (Nat × Nat × Nat)}
variable {Pre1 Pre2 : (Nat → Int) → (Nat → Nat → Int) → Prop} {Post1 Post2 : (Nat → Int) → (Nat → Nat → Int) → (Nat → Int) → (Nat → Nat → Int) → Option Int → Prop}
set_option maxHeartbeats 16000000 in
/-- a kind that calls the class and then the reference, each by its contract -/
theorem gq_two (F : lx_Fr p R s m args meth c D tyc A sa) (hl : l.stackTraces = false) (hRf : 111 ≤ R.frames) (hRl : 8000 ≤ R.locals) (hsa : (z0, b, Ln, xs) ∈ sa.2) (hV : lx_V tyc ws r) (hvk : v ≤ k) (hk4 : k ≤ 4) (hE : ai_gE r (lx_El v 1)) (x4 : ai_ext 382 r r4) (hrd : ∀ q ∈ gq_rd, ai_vx r4 q.2 = (xs (r 1 + q.1).toNat).toInt) (hR : ai_Rel D tyc A s sa ws 7 r4 ad lx_L [.inl (0, .ofNat w)] (gq_E, lx_h, 0, 0) H locs ls st) (hi : 0 ≤ r 1 ∧ r 1 + 10 ≤ (Ln : Int)) (h110 : r 73 = (k : Int)) (had : ad 0 = b)
    (sy1 : pt_sys Y1) (met1 : pt_Met n1 m1 Y1 bb1 Pre1 Post1 1) (fr1 : (lt_rm n1 m1).frames + 1 ≤ 111 ∧ (lt_rm n1 m1).locals + 64 ≤ 8000) (hp1 : ∀ t, p1 t = true → t < Y1.1.1)
    (sy2 : pt_sys Y2) (met2 : pt_Met n2 m2 Y2 bb2 Pre2 Post2 1) (fr2 : (lt_rm n2 m2).frames + 1 ≤ 111 ∧ (lt_rm n2 m2).locals + 64 ≤ 8000) (hp2 : ∀ t, p2 t = true → t < Y2.1.1)
    (hb1 : ct_bud m1 = b1) (hb2 : ct_bud m2 = b2) (hbd : (Nat.ble (b1.1 + b2.1) 1 && Nat.ble (b1.2 + b2.2) 6) = true) (hx1 : Nat.blt x1.1 393 = true) (hx2 : Nat.blt x2.1 393 = true)
    (hB : ∀ t, (P0 t = true ∨ P1 t = true ∨ P2 t = true) → t < 393) (hPf : lx_pc Pf = true)
    (ck1 : gq_ck1 Y1 Y2 p1 p2 X1 X2 AL1 AL2 = true) (ck2 : gq_ck2 Y1 Y2 P0 P1 P2 XF XG1 XG2 hF = true) (ckv : gq_cv P0 = true)
    (hrow : (match lx_run [] [pc1] 16 gq_rd false 40 lx_L [.inl (0, .ofNat w)] (gq_E, lx_h, 0, 0) with
      | some fs => fs.all (gq_c1 pc1 m1 kd1 Y1 S1 bb1 AL1 x1 b1 pc2 (gq_c2 pc2 m2 kd2 Y2 S2 bb2 AL2 b1 x2 (gq_sps sp3 (gq_E, hF, b1.1 + b2.1, b1.2 + b2.2)) C Pf))
      | none => false) = true)
    (hpre1 : ∀ cc, gq_ct r4 cc → gw_I cc → gw_K cc r4 → Pre1 (gq_rn r4 cc p1 X1 AL1 Y1.1) cc)
    (hmid : ∀ cc, gq_ct r4 cc → gw_I cc → gw_K cc r4 → ∀ r2 M2 v1, Post1 (gq_rn r4 cc p1 X1 AL1 Y1.1) cc r2 M2 v1 → ai_gE r2 Y1.1 → (∀ a, v1 = some a → ai_lo32 ≤ a ∧ a ≤ ai_hi32) → gz_pw (gw_o Y1 M2 cc) ∧ ∃ a1, v1 = some (ai_vx (pt_set r4 391 a1) x1) ∧ (ai_lo32 ≤ a1 ∧ a1 ≤ ai_hi32) ∧ Pre2 (gq_rn (pt_set r4 391 a1) cc p2 X2 AL2 Y2.1) cc ∧ ∀ r3 M3 v2, Post2 (gq_rn (pt_set r4 391 a1) cc p2 X2 AL2 Y2.1) cc r3 M3 v2 → ai_gE r3 Y2.1 → (∀ a, v2 = some a → ai_lo32 ≤ a ∧ a ≤ ai_hi32) → ∃ rF, (∀ t, P1 t = true → rF t = r2 t) ∧ (∀ t, P2 t = true → rF t = r3 t) ∧ (∀ t, P0 t = true → rF t = r4 t) ∧ rF 391 = a1 ∧ v2 = some (ai_vx rF x2) ∧ (∀ z ∈ XF, rF z.1 = r2 z.2.2.2) ∧ (∀ z ∈ XG1, rF z.1 = M2 z.2.1 z.2.2) ∧ (∀ z ∈ XG2, rF z.1 = M3 z.2.1 z.2.2) ∧ (ai_lo32 ≤ rF 392 ∧ rF 392 ≤ ai_hi32) ∧ (∀ q ∈ sp3, rF q.1 = q.2) ∧ gw_I (gw_o Y2 M3 (gw_o Y1 M2 cc)) ∧ gw_K (gw_o Y2 M3 (gw_o Y1 M2 cc)) rF ∧ lx_J rF)
    (kn : lx_Kn p l e R s m args below meth c Q D tyc A sa b (r 1)) : W p l e R s m args below meth c H locs 0 0 Q (F0 m 40 ls st) := by
  have hbud := F.2.2.2.2.2.2.2.1
  have hc1 : (1 : Nat) = R.cells := hbud.1
  have hc2 : (6 : Nat) = R.slots := hbud.2
  rw [Bool.and_eq_true] at hbd
  have hbd1 := Nat.le_of_ble_eq_true hbd.1
  have hbd2 := Nat.le_of_ble_eq_true hbd.2
  have hx1 : x1.1 < 393 := Nat.le_of_ble_eq_true hx1
  have hx2 : x2.1 < 393 := Nat.le_of_ble_eq_true hx2
  have rc1 : (lt_rm n1 m1).cells = b1.1 := by
    show (ct_bud m1).1 = b1.1
    rw [hb1]
  have rs1 : (lt_rm n1 m1).slots = b1.2 := by
    show (ct_bud m1).2 = b1.2
    rw [hb1]
  have rc2 : (lt_rm n2 m2).cells = b2.1 := by
    show (ct_bud m2).1 = b2.1
    rw [hb2]
  have rs2 : (lt_rm n2 m2).slots = b2.2 := by
    show (ct_bud m2).2 = b2.2
    rw [hb2]
  unfold gq_ck1 at ck1
  simp only [Bool.and_eq_true] at ck1
  obtain ⟨⟨i1, i2⟩, ⟨gn1, gn2⟩, gg1, gg2⟩ := ck1
  unfold gq_ck2 at ck2
  simp only [Bool.and_eq_true] at ck2
  obtain ⟨⟨o1, o2, o3, o4⟩, ⟨no0, no1, no2⟩, o5, ⟨xg1, xg2⟩, z00, z01, z0m, z0r⟩ := ck2
  have o3 := Nat.eq_of_beq_eq_true o3
  have o4 : ∀ q, q < 16 → ai_cell hF q = none := fun q hq => Option.isNone_iff_eq_none.mp (List.all_eq_true.mp o4 q (List.mem_range.mpr hq))
  have hE4 : ai_gE r4 gq_E := hR.env
  have e41 : r4 1 = r 1 := x4 1 (by omega)
  have rl : ∀ q ∈ gq_rd, q.2.1 < 382 + 9 := fun q hq => by
    rw [gq_rdok] at hq
    obtain ⟨j, hj, rfl⟩ := List.mem_map.mp hq
    have := List.mem_range.mp hj
    show 382 + j < 382 + 9
    omega
  have rlE : ∀ q ∈ gq_rd, q.2.1 < gq_E.1 := fun q hq => by
    have := rl q hq
    show q.2.1 < 393
    omega
  split at hrow
  case h_2 => cases hrow
  rename_i fs hrun
  refine lx_ok (k0 := 60) (T := []) (G := (gq_E, lx_h, 0, 0)) F hl trivial (by omega) (by omega) hV.1.pw hsa 16 gq_rd false 40 lx_L _ fs r4 ad H locs ls st hrun hR (by show 1 < 393; omega) (by show 0 < 336; omega) (by rw [e41]; exact hi) had (by rw [e41]; exact hrd) rlE (fun g hg r5 ad5 y1 y2 y3 y4 H5 locs5 ls5 st5 hR5 => ?_)
  have y1 : ai_ext gq_E.1 r4 r5 := y1
  have y2 : ai_ext 336 ad ad5 := y2
  have y1' : ai_ext gq_E.1 r5 r4 := fun t ht => (y1 t ht).symm
  have hgc := List.all_eq_true.mp hrow g hg
  unfold gq_c1 at hgc
  simp only [Bool.and_eq_true] at hgc
  obtain ⟨⟨g1, g2⟩, ⟨g3, g4⟩, g5, g6, g7, g8⟩ := hgc
  obtain ⟨q1, q2⟩ := cy_z_ok g2
  have hG : g.2.2.2 = (gq_E, lx_h, 0, 0) := Prod.ext (gq_qE_ok g4) (Prod.ext (hy_heq_ok g3) (Prod.ext q1 q2))
  rw [hG] at hR5
  rw [hG, Nat.eq_of_beq_eq_true g1]
  obtain ⟨hWd5, hS5, hL5, hSt5⟩ := hR5.wd
  obtain ⟨ws1, c1, W1, -, K1, sm1⟩ := gq_of (h := lx_h) rfl hWd5
  have K1' : gq_K tyc ws1 r4 ad5 gq_E.1 lx_h c1 (fun _ => true) := K1.re gq_hN (fun t ht => by
    have ht : t < 391 := Nat.le_of_ble_eq_true ht
    have ht2 : t < gq_E.1 := by
      show t < 393
      omega
    exact ⟨ht2, (y1 t ht2).symm⟩)
  have hL4 : ai_gL r4 ad5 gq_E.1 336 7 g.2.1 ls5 := ai_gL.mono y1' ai_ext.rfl' (Nat.le_refl _) (Nat.le_refl _) hL5
  have hSt4 : ai_gF r4 ad5 gq_E.1 336 g.2.2.1 st5 := ai_gF.mono y1' ai_ext.rfl' (Nat.le_refl _) (Nat.le_refl _) hSt5
  obtain ⟨M0, hM0, I0, K0⟩ := hV.1
  have no1g : ∀ z ∈ gw_l, ws1[z.1 - 16]? = ws[z.1 - 16]? := fun z hz => by
    have b := gw_lb z hz
    exact sm1 (z.1 - 16) (by omega) (by rw [show z.1 - 16 + 16 = z.1 by omega]; exact gw_no_ok no0 z hz)
  obtain ⟨cc, hcc⟩ : ∃ cc, cc = gw_c M0 c1 := ⟨_, rfl⟩
  have ccg : ∀ z ∈ gw_l, cc z.1 = M0 z.1 := fun z hz => by
    rw [hcc]
    exact gw_c_in hz
  have hMc : pt_M tyc gw_l ws1 cc := fun z hz => by
    rw [ccg z hz]
    exact gw_A (hM0 z hz) (no1g z hz)
  have Ic : gw_I cc := gw_I_c I0 ccg
  have Kc : gw_K cc r4 := gw_K_c (gw_K_k K0 (fun t ht => x4 t (by
    have w : lx_Jt.all (fun t => Nat.blt t 382) = true := by decide +kernel
    exact Nat.le_of_ble_eq_true (List.all_eq_true.mp w t (lx_Kj ht).1)))) ccg
  have K1c : gq_K tyc ws1 r4 ad5 gq_E.1 lx_h cc (fun _ => true) := by
    rw [hcc]
    exact gw_Kq (fun k d hd => gw_c_no no0 hd) K1'
  obtain ⟨-, hWd1⟩ := gq_sys (c1 := 0) (s1 := 0) sy1 hp1 hE4 W1 K1c i1
  have ct1 : gq_ct r4 cc := fun q ty m lo hi l q1 q2 hq j hj => by
    obtain ⟨-, ga⟩ := K1c q q1 q2 rfl _ hq
    exact (ga ty m lo hi l rfl).2.1 j hj
  refine gq_call (Y := Y1) (n := n1) (mj := m1) (rt := 1) (S := S1) (bb := bb1) (r := r4) (N := gq_E.1) (L := g.2.1) F hl sy1 gn1 g7 met1 ⟨by omega, by omega⟩ (gw_pw hMc Ic.1) (gw_Mof (fun z hz _ => hMc z hz) K1c gg1) (hpre1 cc ct1 Ic Kc) hL4 (gq_ss_ok (gq_ik_A i1) g6 hSt4) hWd1 hS5 ⟨by rw [rc1]; show 0 + b1.1 ≤ R.cells; omega, by rw [rs1]; show 0 + b1.2 ≤ R.slots; omega⟩ (fun T locs1 v1 st1 r2 M2 ws2 c2 po1 re1 W2 hE2 K2 MM2 sm2 hS2 => ?_)
  have re1 : ∃ i : Int32, v1 = some i.toInt ∧ st1 = [.int i] := re1
  obtain ⟨i, hv1, rfl⟩ := re1
  obtain ⟨hpm, a1, ha1, hb1', hm⟩ := hmid cc ct1 Ic Kc r2 M2 v1 po1 hE2 (fun a ha => by
    rw [hv1] at ha
    cases ha
    exact ai_i32 i)
  obtain ⟨rA, hrA⟩ : ∃ rA, rA = pt_set r4 391 a1 := ⟨_, rfl⟩
  rw [← hrA] at ha1 hm
  have hEA : ai_gE rA gq_E := by
    rw [hrA]
    exact gq_setE hE4 hb1'
  have rAne : ∀ t, t ≠ 391 → rA t = r4 t := fun t ht => by
    rw [hrA]
    exact if_neg ht
  have rAsp : rA 391 = a1 := by
    rw [hrA]
    exact if_pos rfl
  have hMm : pt_M tyc gw_l ws2 (gw_o Y1 M2 cc) := gw_Mo hMc MM2 sm2 no1
  have hLA : ai_gL rA ad5 gq_E.1 336 7 g.2.1 ls5 := gq_lo_ok g5 (fun t ht => by
    have ht : t = 0 ∨ t = 1 := by simpa using ht
    refine ⟨by show t < 393; omega, rAne t (by omega)⟩) hL4
  have RA : ai_Rel D tyc A s sa ws2 7 rA ad5 g.2.1 [.inl x1] (gq_E, gl_he, b1.1, b1.2) T locs1 ls5 [.int i] := ai_Wd.rel (gq_he hEA W2) hS2 hLA ⟨⟨hx1, i, rfl, gq_some (hv1.symm.trans ha1)⟩, trivial⟩
  rw [rc1, rs1, Nat.zero_add, Nat.zero_add]
  split at g8
  case h_2 => cases g8
  rename_i fs2 hrun2
  have eA1 : rA 1 = r 1 := (rAne 1 (by omega)).trans e41
  have rdA : ∀ (rr : Nat → Int), (∀ t, t < 391 → rr t = r4 t) → ∀ q ∈ gq_rd, ai_vx rr q.2 = (xs (r 1 + q.1).toNat).toInt := fun rr hrr q hq => by
    rw [← hrd q hq]
    show rr q.2.1 + q.2.2 = r4 q.2.1 + q.2.2
    rw [hrr _ (by have := rl q hq; omega)]
  have had5 : ad5 0 = b := (y2 0 (by omega)).trans had
  refine lx_ok (k0 := 60) (T := []) (G := (gq_E, gl_he, b1.1, b1.2)) F hl trivial (by omega) (by omega) (gw_pw hMm hpm) hsa 16 gq_rd false (pc1 + 3) g.2.1 _ fs2 rA ad5 T locs1 ls5 [.int i] hrun2 RA (by show 1 < 393; omega) (by show 0 < 336; omega) (by rw [eA1]; exact hi) had5 (by rw [eA1]; exact rdA rA (fun t ht => rAne t (by omega))) rlE (fun h hh r6 ad6 u1 u2 u3 u4 H6 locs6 ls6 st6 hR6 => ?_)
  have u1 : ai_ext gq_E.1 rA r6 := u1
  have u2 : ai_ext 336 ad5 ad6 := u2
  have u1' : ai_ext gq_E.1 r6 rA := fun t ht => (u1 t ht).symm
  have hhc := List.all_eq_true.mp g8 h hh
  unfold gq_c2 at hhc
  simp only [Bool.and_eq_true] at hhc
  obtain ⟨⟨f1, f2, f3⟩, ⟨f4, f5⟩, f6, f7, f8, f9⟩ := hhc
  have hG2 : h.2.2.2 = (gq_E, gl_he, b1.1, b1.2) := Prod.ext (gq_qE_ok f5) (Prod.ext (hy_heq_ok f4) (Prod.ext (Nat.eq_of_beq_eq_true f2) (Nat.eq_of_beq_eq_true f3)))
  rw [hG2] at hR6
  rw [hG2, Nat.eq_of_beq_eq_true f1]
  obtain ⟨hWd6, hS6, hL6, hSt6⟩ := hR6.wd
  obtain ⟨ws3, c3, W3, -, -, sm3⟩ := gq_of (h := gl_he) rfl hWd6
  have sm3 : ∀ q, q + 16 < 336 → ws3[q]? = ws2[q]? := fun q hq => sm3 q hq (gl_heN hq)
  have KA : gq_K tyc ws3 r2 ad6 Y1.1.1 Y1.2.1 c2 (fun _ => true) := gq_K.adx (gq_K.mv K2 (fun q k1 k2 _ => ⟨rfl, sm3 (q - 16) (by omega)⟩)) u2
  have KO : gq_K tyc ws3 rA ad6 gq_E.1 lx_h cc (gq_ot Y1) := gq_K.adx (gq_K.mv (gq_K.re (N2 := gq_E.1) (r2 := rA) K1c gq_hN (fun t ht => by
    have ht : t < 391 := Nat.le_of_ble_eq_true ht
    exact ⟨by show t < 393; omega, rAne t (by omega)⟩)) (fun q k1 k2 hn => ⟨rfl, by
      refine (sm3 (q - 16) (by omega)).trans (sm2 (q - 16) (by omega) ?_)
      rw [show q - 16 + 16 = q by omega]
      exact hn⟩)) u2
  obtain ⟨hpr2, hm2⟩ := hm
  have hL6' : ai_gL rA ad6 gq_E.1 336 7 h.2.1 ls6 := ai_gL.mono u1' ai_ext.rfl' (Nat.le_refl _) (Nat.le_refl _) hL6
  have hSt6' : ai_gF rA ad6 gq_E.1 336 h.2.2.1 st6 := ai_gF.mono u1' ai_ext.rfl' (Nat.le_refl _) (Nat.le_refl _) hSt6
  obtain ⟨-, hWd2⟩ := gq_sys (c1 := b1.1) (s1 := b1.2) sy2 hp2 hEA W3 KO i2
  have hMn : pt_M tyc gw_l ws3 (gw_o Y1 M2 cc) := fun z hz => gw_A (hMm z hz) (sm3 (z.1 - 16) (by have := gw_lb z hz; omega))
  refine gq_call (Y := Y2) (n := n2) (mj := m2) (rt := 1) (S := S2) (bb := bb2) (r := rA) (N := gq_E.1) (L := h.2.1) F hl sy2 gn2 f8 met2 ⟨by omega, by omega⟩ (gw_pw hMn hpm) (gw_Mof (fun z hz hp => gw_A (hMc z hz) ((sm3 (z.1 - 16) (by have := gw_lb z hz; omega)).trans (sm2 (z.1 - 16) (by have := gw_lb z hz; omega) (by rw [show z.1 - 16 + 16 = z.1 by have := gw_lb z hz; omega]; exact hp)))) KO gg2) hpr2 hL6' (gq_ss_ok (gq_ik_A i2) f7 hSt6') hWd2 hS6 ⟨by rw [rc2, ← hc1]; exact hbd1, by rw [rs2, ← hc2]; exact hbd2⟩ (fun T2 locs2 v2 st2 r3 M3 ws4 c4 po2 re2 W4 hE3 K4 MM4 sm4 hS4 => ?_)
  have re2 : ∃ i : Int32, v2 = some i.toInt ∧ st2 = [.int i] := re2
  obtain ⟨j, hv2, rfl⟩ := re2
  obtain ⟨rF, t1, t2, t0, ta, tv, tx, tg1, tg2, ts2, tsp, tI, tK, tJ⟩ := hm2 r3 M3 v2 po2 hE3 (fun a ha => by
    rw [hv2] at ha
    cases ha
    exact ai_i32 j)
  have hVD : cl_V tyc ws4 rF := ⟨gw_o Y2 M3 (gw_o Y1 M2 cc), gw_Mo hMn MM4 sm4 no2, tI, tK⟩
  have hEF : ai_gE rF gq_E := gq_gE (fun x hx => by
    rcases List.mem_append.mp hx with hx | hx
    · rw [tg1 x hx]
      exact gq_xg_ok MM2 (List.all_eq_true.mp xg1 x hx)
    · rw [tg2 x hx]
      exact gq_xg_ok MM4 (List.all_eq_true.mp xg2 x hx)) hE4 hE2 hE3 t0 t1 t2 z00 o5 (by rw [ta]; exact hb1') ts2
  have hc : ∀ q, 16 ≤ q → q < 336 → ∀ d, ai_cell hF q = some d → gq_at tyc ws4 rF ad6 gq_E.1 q d := fun q q1 q2 d hd => by
    have g := List.all_eq_true.mp o1 q (List.mem_range.mpr q2)
    unfold gq_fk at g
    rw [hd] at g
    have g := (Bool.and_eq_true _ _ ▸ g : _ ∧ _).2
    have back : ∀ {rr : Nat → Int} {N : Nat} {hh : ai_H} {cc : Nat → Nat → Int} {PP : Nat → Bool}, gq_K tyc ws3 rr ad6 N hh cc PP → PP q = true → gq_ot Y2 q = true → ∀ d0, ai_cell hh q = some d0 → gq_at tyc ws4 rr ad6 N q d0 ∧ gq_ar tyc ws4 rr ad6 N q cc d0 := fun K hp hn d0 hd0 => gq_K.mv (P2 := fun z => decide (z = q)) K (fun z z1 z2 hz => by
      have hz : z = q := of_decide_eq_true hz
      subst hz
      refine ⟨hp, sm4 (z - 16) (by omega) ?_⟩
      rw [show z - 16 + 16 = z by omega]
      exact hn) q q1 q2 (decide_eq_true rfl) d0 hd0
    have dis : gq_ot Y1 q = false → gq_ot Y2 q = true := fun ho => by
      cases ey2 : ai_cell Y2.2.1 q with
      | some d2 =>
        have := gq_ik_P i2 q2 ey2
        rw [ho] at this
        cases this
      | none =>
        cases eg2 : gq_fg Y2 q with
        | none => exact gq_fg_no eg2 ey2
        | some g2 =>
          obtain ⟨w1, w2⟩ := gq_fg_ok eg2
          have w := List.all_eq_true.mp gg2 g2 w1
          have w := gw_g1_P w
          rw [w2, ho] at w
          cases w
    cases ey1 : ai_cell Y1.2.1 q with
    | some d1 =>
      rw [ey1] at g
      have n2 : gq_ot Y2 q = true := dis (by
        unfold gq_ot
        rw [ey1]
        rfl)
      obtain ⟨a, aa⟩ := back KA rfl n2 d1 ey1
      refine gq_cc_ok hE2 hEF.1 hEF.2.1 (fun t ht => ⟨hB t (Or.inr (Or.inl ht)), t1 t ht⟩) (fun z hz => ?_) a aa g
      obtain ⟨y, hy, rfl⟩ := List.mem_map.mp hz
      have gx := List.all_eq_true.mp o2 y hy
      unfold gq_xf at gx
      split at gx
      · rename_i ty mm lo hi' ll ec
        simp only [Bool.and_eq_true] at gx
        obtain ⟨⟨⟨k1, k2⟩, k3, k4⟩, k5⟩ := gx
        obtain ⟨-, ga⟩ := K2 y.2.1 (Nat.le_of_ble_eq_true k1) (Nat.le_of_ble_eq_true k2) rfl _ ec
        obtain ⟨-, gov, -⟩ := ga _ _ _ _ _ rfl
        have gov := gov y.2.2.1 (Nat.le_of_ble_eq_true k3)
        cases ef : ll.find? (fun z => ai_eq z.1.2 (.ofNat y.2.2.1)) with
        | none =>
          rw [ef] at k5
          cases k5
        | some zz =>
          rw [ef] at k5
          simp only [Bool.and_eq_true] at k5
          have w1 := Nat.eq_of_beq_eq_true k5.1
          have w2 := cx_q_ok k5.2
          have w3 := ai_eq_iff.mp (List.find?_some (p := fun (z : ai_X × ai_X) => ai_eq z.1.2 (.ofNat y.2.2.1)) ef)
          obtain ⟨⟨za, zb⟩, zc⟩ := zz
          have w1 : za = 0 := w1
          have w2 : zc = (y.2.2.2, 0) := w2
          have w3 : zb = ((y.2.2.1 : Nat) : Int) := w3
          subst w1 w2 w3
          have w := gl_at hE2.1 (fun z hz => Nat.eq_of_beq_eq_true (List.all_eq_true.mp k4 z hz)) ef gov
          show rF y.1 = c2 y.2.1 y.2.2.1
          rw [tx y hy, w]
          exact (Int.add_zero _).symm
      · cases gx
    | none =>
      rw [ey1] at g
      cases eg1 : gq_fg Y1 q with
      | some g1 =>
        rw [eg1] at g
        obtain ⟨w1, w2⟩ := gq_fg_ok eg1
        have n1 : gq_ot Y1 q = false := by
          cases e : gq_ot Y1 q with
          | false => rfl
          | true =>
            unfold gq_ot at e
            rw [Bool.and_eq_true] at e
            have := List.all_eq_true.mp e.2 g1 w1
            rw [w2, Nat.beq_refl] at this
            cases this
        have n2 := dis n1
        have m4 : pt_A tyc ws4 g1.1 g1.2.1 g1.2.2 (M2 g1.1) := gq_Mmv (Gh := [g1]) (ws := ws2) (fun z hz => by
          rcases List.mem_cons.mp hz with rfl | hz
          · exact MM2 _ w1
          · cases hz) (fun z hz => by
          rcases List.mem_cons.mp hz with rfl | hz
          · rw [w2]
            refine (sm4 (q - 16) (by omega) ?_).trans (sm3 (q - 16) (by omega))
            rw [show q - 16 + 16 = q by omega]
            exact n2
          · cases hz) g1 List.mem_cons_self
        have g : gq_gf XG1 393 g1.1 g1.2.1 g1.2.2 d = true := g
        rw [w2] at m4 g
        exact gq_gf_ok W4 q1 hEF.1 hEF.2.1 (fun z hz h1 h2 => by rw [← h1]; exact tg1 z hz) m4 g
      | none =>
        rw [eg1] at g
        have o1' := gq_fg_no eg1 ey1
        cases ey2 : ai_cell Y2.2.1 q with
        | some d2 =>
          rw [ey2] at g
          obtain ⟨a, aa⟩ := K4 q q1 q2 rfl d2 ey2
          exact gq_cc_ok hE3 hEF.1 hEF.2.1 (fun t ht => ⟨hB t (Or.inr (Or.inr ht)), t2 t ht⟩) (fun z hz => by cases hz) a aa g
        | none =>
          rw [ey2] at g
          cases eg2 : gq_fg Y2 q with
          | some g2 =>
            rw [eg2] at g
            obtain ⟨w1, w2⟩ := gq_fg_ok eg2
            have m4 := MM4 g2 w1
            have g : gq_gf XG2 393 g2.1 g2.2.1 g2.2.2 d = true := g
            rw [w2] at m4 g
            exact gq_gf_ok W4 q1 hEF.1 hEF.2.1 (fun z hz h1 h2 => by rw [← h1]; exact tg2 z hz) m4 g
          | none =>
            rw [eg2] at g
            have o2' := gq_fg_no eg2 ey2
            cases ey0 : ai_cell lx_h q with
            | none =>
              rw [ey0] at g
              cases g
            | some d0 =>
              rw [ey0] at g
              obtain ⟨a, aa⟩ := back KO o1' o2' d0 ey0
              refine gq_cc_ok hEA hEF.1 hEF.2.1 (fun t ht => ⟨hB t (Or.inl ht), ?_⟩) (fun z hz => by cases hz) a aa g
              by_cases et : t = 391
              · rw [et, ta, rAsp]
              · rw [rAne t et]
                exact t0 t ht
  have hLF : ai_gL rF ad6 gq_E.1 336 7 h.2.1 ls6 := gq_lo_ok f6 (fun t ht => by
    have ht : t = 0 ∨ t = 1 ∨ t = 391 := by simpa using ht
    rcases ht with rfl | rfl | rfl
    · exact ⟨by show 0 < 393; omega, (t0 0 z00).trans (rAne 0 (by omega)).symm⟩
    · exact ⟨by show 1 < 393; omega, (t0 1 z01).trans (rAne 1 (by omega)).symm⟩
    · exact ⟨by show 391 < 393; omega, ta.trans rAsp.symm⟩) hL6'
  have RF : ai_Rel D tyc A s sa ws4 7 rF ad6 h.2.1 [.inl x2] (gq_E, hF, b1.1 + b2.1, b1.2 + b2.2) T2 locs2 ls6 [.int j] := ai_Wd.rel (gq_to o3 o4 hEF W4 hc) hS4 (by
    show ai_gL rF ad6 gq_E.1 hF.1 7 h.2.1 ls6
    rw [o3]
    exact hLF) ⟨⟨hx2, j, rfl, gq_some (hv2.symm.trans tv)⟩, trivial⟩
  have R3 := gq_sps_ok (q := sp3) RF tsp o4
  obtain ⟨s1, s2, s3⟩ := gq_spsE (l := sp3) (G := (gq_E, hF, b1.1 + b2.1, b1.2 + b2.2))
  have sN : (gq_sps sp3 (gq_E, hF, b1.1 + b2.1, b1.2 + b2.2)).1.1 = 393 := by
    rw [s1]
    rfl
  have sH : (gq_sps sp3 (gq_E, hF, b1.1 + b2.1, b1.2 + b2.2)).2.1.1 = 336 := by
    rw [s2]
    exact o3
  split at f9
  case h_2 => cases f9
  rename_i fs3 hrun3
  have eF1 : rF 1 = r 1 := (t0 1 z01).trans e41
  have had6 : ad6 0 = b := (u2 0 (by omega)).trans had5
  rw [rc2, rs2]
  have res := lx_ok (k0 := 60) (T := []) (G := gq_sps sp3 (gq_E, hF, b1.1 + b2.1, b1.2 + b2.2)) (e := e) (below := below) (Q := Q) F hl trivial (by omega) (by omega) hVD.pw hsa 16 gq_rd false (pc2 + 3) h.2.1 _ fs3 rF ad6 T2 locs2 ls6 [.int j] hrun3 R3 (by rw [sN]; omega) (by rw [sH]; omega) (by rw [eF1]; exact hi) had6 (by
    rw [eF1]
    exact fun q hq => by
      rw [← hrd q hq]
      rw [gq_rdok] at hq
      obtain ⟨z, hz, rfl⟩ := List.mem_map.mp hq
      show rF (382 + z) + 0 = r4 (382 + z) + 0
      rw [t0 _ (List.all_eq_true.mp z0r z hz)]) (by rw [sN]; exact rlE) (fun f hf r8 ad8 n1' n2' n3' n4' H8 locs8 ls8 st8 hR8 => ?_)
  · rw [s3] at res
    exact res
  have hck3 := List.all_eq_true.mp f9 f hf
  rw [sN] at n1'
  rw [sH] at n2'
  have hEv := gq_gEv (by omega) hE hEF (fun t ht ht2 => (t0 t ht).trans (x4 t ht2)) ckv
  obtain ⟨e1, e2, e3, rE, hRE, w1, w2, wJ⟩ := lx_fullJ hEv tJ (by omega) hPf hck3 (fun t ht => n1' t (by omega)) hR8
  rw [e1]
  exact kn v k ws4 rE ad8 H8 locs8 ls8 st8 _ _ hvk hk4 e2 e3 ⟨hVD.k wJ.2, wJ.1⟩ hRE (by rw [w1, n1' 1 (by omega), eF1]) (by rw [w2, n1' 73 (by omega), t0 _ z0m, x4 _ (by omega), h110, Int.add_zero]) ((n2' 0 (by omega)).trans had6)
theorem gq_twoO (F : lx_Fr p R s m args meth c D tyc A sa) (hl : l.stackTraces = false) (hRf : 111 ≤ R.frames) (hRl : 8000 ≤ R.locals) (hsa : (z0, b, Ln, xs) ∈ sa.2) (hV : lx_V tyc ws r) (hvk : v ≤ k) (hk4 : k ≤ 4) (hE : ai_gE r (lx_El v 1)) (x4 : ai_ext 382 r r4) (hrd : ∀ q ∈ gq_rd, ai_vx r4 q.2 = (xs (r 1 + q.1).toNat).toInt) (hR : ai_Rel D tyc A s sa ws 7 r4 ad lx_L [.inl (0, .ofNat w)] (gq_E, lx_h, 0, 0) H locs ls st) (hi : 0 ≤ r 1 ∧ r 1 + 10 ≤ (Ln : Int)) (h110 : r 73 = (k : Int)) (had : ad 0 = b)
    (sy1 : pt_sys Y1) (met1 : pt_Met n1 m1 Y1 bb1 Pre1 Post1 1) (fr1 : (lt_rm n1 m1).frames + 1 ≤ 111 ∧ (lt_rm n1 m1).locals + 64 ≤ 8000) (hp1 : ∀ t, p1 t = true → t < Y1.1.1)
    (sy2 : pt_sys Y2) (met2 : pt_Met n2 m2 Y2 bb2 Pre2 Post2 1) (fr2 : (lt_rm n2 m2).frames + 1 ≤ 111 ∧ (lt_rm n2 m2).locals + 64 ≤ 8000) (hp2 : ∀ t, p2 t = true → t < Y2.1.1)
    (hb1 : ct_bud m1 = b1) (hb2 : ct_bud m2 = b2) (hbd : (Nat.ble (b1.1 + b2.1) 1 && Nat.ble (b1.2 + b2.2) 6) = true) (hx1 : Nat.blt x1.1 393 = true) (hx2 : Nat.blt x2.1 393 = true)
    (hB : ∀ t, (P0 t = true ∨ P1 t = true ∨ P2 t = true) → t < 393) (hPf : lx_pc Pf = true)
    (ck1 : gq_ck1 Y1 Y2 p1 p2 X1 X2 AL1 AL2 = true) (ck2 : gq_ck2 Y1 Y2 P0 P1 P2 XF XG1 XG2 hF = true) (ckv : gq_cv P0 = true)
    (hrow : (match lx_run [] [pc1] 16 gq_rd false 40 lx_L [.inl (0, .ofNat w)] (gq_E, lx_h, 0, 0) with
      | some fs => fs.all (gq_c1 pc1 m1 kd1 Y1 S1 bb1 AL1 x1 b1 pc2 (gq_c2 pc2 m2 kd2 Y2 S2 bb2 AL2 b1 x2 (gq_sps sp3 (gq_E, hF, b1.1 + b2.1, b1.2 + b2.2)) C Pf))
      | none => false) = true)
    (hg : gw_l.all (fun z => gq_ot Y1 z.1 && gq_ot Y2 z.1) = true) (hkk : lx_Kt.all P0 = true)
    (hpre1 : ∀ cc, gq_ct r4 cc → Pre1 (gq_rn r4 cc p1 X1 AL1 Y1.1) cc)
    (hmid : ∀ cc, gq_ct r4 cc → ∀ r2 M2 v1, Post1 (gq_rn r4 cc p1 X1 AL1 Y1.1) cc r2 M2 v1 → ai_gE r2 Y1.1 → (∀ a, v1 = some a → ai_lo32 ≤ a ∧ a ≤ ai_hi32) → ∃ a1, v1 = some (ai_vx (pt_set r4 391 a1) x1) ∧ (ai_lo32 ≤ a1 ∧ a1 ≤ ai_hi32) ∧ Pre2 (gq_rn (pt_set r4 391 a1) cc p2 X2 AL2 Y2.1) cc ∧ ∀ r3 M3 v2, Post2 (gq_rn (pt_set r4 391 a1) cc p2 X2 AL2 Y2.1) cc r3 M3 v2 → ai_gE r3 Y2.1 → (∀ a, v2 = some a → ai_lo32 ≤ a ∧ a ≤ ai_hi32) → ∃ rF, (∀ t, P1 t = true → rF t = r2 t) ∧ (∀ t, P2 t = true → rF t = r3 t) ∧ (∀ t, P0 t = true → rF t = r4 t) ∧ rF 391 = a1 ∧ v2 = some (ai_vx rF x2) ∧ (∀ z ∈ XF, rF z.1 = r2 z.2.2.2) ∧ (∀ z ∈ XG1, rF z.1 = M2 z.2.1 z.2.2) ∧ (∀ z ∈ XG2, rF z.1 = M3 z.2.1 z.2.2) ∧ (ai_lo32 ≤ rF 392 ∧ rF 392 ≤ ai_hi32) ∧ (∀ q ∈ sp3, rF q.1 = q.2) ∧ lx_J rF)
    (kn : lx_Kn p l e R s m args below meth c Q D tyc A sa b (r 1)) : W p l e R s m args below meth c H locs 0 0 Q (F0 m 40 ls st) := by
  have g0 : ∀ z ∈ gw_l, gq_ot Y1 z.1 = true ∧ gq_ot Y2 z.1 = true := fun z hz => by
    have w := List.all_eq_true.mp hg z hz
    rw [Bool.and_eq_true] at w
    exact w
  have ot : ∀ {Y : pt_Y} {q : Nat} {M c : Nat → Nat → Int}, gq_ot Y q = true → gw_o Y M c q = c q := fun {Y q M c} h => if_neg (fun w => by
    unfold gq_ot at h
    rw [Bool.and_eq_true] at h
    obtain ⟨g, hg, e⟩ := List.any_eq_true.mp w
    have k := List.all_eq_true.mp h.2 g hg
    rw [e] at k
    cases k)
  refine gq_two F hl hRf hRl hsa hV hvk hk4 hE x4 hrd hR hi h110 had sy1 met1 fr1 hp1 sy2 met2 fr2 hp2 hb1 hb2 hbd hx1 hx2 hB hPf ck1 ck2 ckv hrow (fun cc a _ _ => hpre1 cc a) (fun cc a I K r2 M2 v1 po hE2 hv => ?_) kn
  obtain ⟨a1, h1, h2, h3, h4⟩ := hmid cc a r2 M2 v1 po hE2 hv
  refine ⟨(gw_I_c I (fun z hz => ot (g0 z hz).1)).1, a1, h1, h2, h3, fun r3 M3 v2 po2 hE3 hv2 => ?_⟩
  obtain ⟨rF, t1, t2, t0, ta, tv, tx, tg1, tg2, tb, tsp, tJ⟩ := h4 r3 M3 v2 po2 hE3 hv2
  have e2 : ∀ z ∈ gw_l, gw_o Y2 M3 (gw_o Y1 M2 cc) z.1 = cc z.1 := fun z hz => (ot (g0 z hz).2).trans (ot (g0 z hz).1)
  exact ⟨rF, t1, t2, t0, ta, tv, tx, tg1, tg2, tb, tsp, gw_I_c I e2, gw_K_c (gw_K_k K (fun t ht => t0 t (List.all_eq_true.mp hkk t ht))) e2, tJ⟩
end GQT
