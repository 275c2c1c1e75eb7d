/-! 16.model: the methods as functions, and that the bytecode does so (written by wip/whole/gen/gen_parts.py) -/
def y_X9_init : MethodName := ⟨"OpensAtNineModel", "<init>", "()V"⟩
def T_X9_init_0 : List (Nat × Instr × Nat × Nat) := [(0, .aload_n 0, 1, 1), (1, .invokespecial 1, 3, 4), (4, .aload_n 0, 1, 5), (5, .bipush 9, 2, 7), (7, .putfield 7, 3, 10), (10, .aload_n 0, 1, 11), (11, .bipush 7, 2, 13), (13, .newarray .int, 2, 15), (15, .putfield 13, 3, 18), (18, .aload_n 0, 1, 19), (19, .bipush 7, 2, 21), (21, .newarray .int, 2, 23), (23, .putfield 17, 3, 26), (26, .aload_n 0, 1, 27), (27, .bipush 7, 2, 29), (29, .newarray .int, 2, 31), (31, .putfield 20, 3, 34), (34, .aload_n 0, 1, 35), (35, .bipush 7, 2, 37), (37, .newarray .int, 2, 39), (39, .putfield 23, 3, 42), (42, .aload_n 0, 1, 43), (43, .sipush 160, 3, 46), (46, .newarray .int, 2, 48), (48, .putfield 26, 3, 51), (51, .aload_n 0, 1, 52), (52, .sipush 1200, 3, 55), (55, .newarray .int, 2, 57), (57, .putfield 29, 3, 60), (60, .aload_n 0, 1, 61), (61, .bipush 24, 2, 63), (63, .newarray .int, 2, 65), (65, .putfield 32, 3, 68), (68, .aload_n 0, 1, 69), (69, .bipush 8, 2, 71), (71, .newarray .int, 2, 73), (73, .putfield 35, 3, 76), (76, .aload_n 0, 1, 77), (77, .bipush 7, 2, 79), (79, .newarray .int, 2, 81)]
def T_X9_init_1 : List (Nat × Instr × Nat × Nat) := [(81, .putfield 38, 3, 84), (84, .aload_n 0, 1, 85), (85, .iconst 4, 1, 86), (86, .newarray .int, 2, 88), (88, .dup, 1, 89), (89, .iconst 0, 1, 90), (90, .iconst (-1), 1, 91), (91, .iastore, 1, 92), (92, .dup, 1, 93), (93, .iconst 1, 1, 94), (94, .iconst (-1), 1, 95), (95, .iastore, 1, 96), (96, .dup, 1, 97), (97, .iconst 2, 1, 98), (98, .iconst (-1), 1, 99), (99, .iastore, 1, 100), (100, .dup, 1, 101), (101, .iconst 3, 1, 102), (102, .iconst (-1), 1, 103), (103, .iastore, 1, 104), (104, .putfield 41, 3, 107), (107, .aload_n 0, 1, 108), (108, .iconst 4, 1, 109), (109, .newarray .int, 2, 111), (111, .putfield 44, 3, 114), (114, .aload_n 0, 1, 115), (115, .sipush 160, 3, 118), (118, .newarray .int, 2, 120), (120, .putfield 47, 3, 123), (123, .aload_n 0, 1, 124), (124, .bipush 42, 2, 126), (126, .newarray .int, 2, 128), (128, .dup, 1, 129), (129, .iconst 0, 1, 130), (130, .bipush 111, 2, 132), (132, .iastore, 1, 133), (133, .dup, 1, 134), (134, .iconst 1, 1, 135), (135, .bipush 112, 2, 137), (137, .iastore, 1, 138)]
def T_X9_init_2 : List (Nat × Instr × Nat × Nat) := [(138, .dup, 1, 139), (139, .iconst 2, 1, 140), (140, .bipush 101, 2, 142), (142, .iastore, 1, 143), (143, .dup, 1, 144), (144, .iconst 3, 1, 145), (145, .bipush 110, 2, 147), (147, .iastore, 1, 148), (148, .dup, 1, 149), (149, .iconst 4, 1, 150), (150, .bipush 115, 2, 152), (152, .iastore, 1, 153), (153, .dup, 1, 154), (154, .iconst 5, 1, 155), (155, .bipush 32, 2, 157), (157, .iastore, 1, 158), (158, .dup, 1, 159), (159, .bipush 6, 2, 161), (161, .bipush 114, 2, 163), (163, .iastore, 1, 164), (164, .dup, 1, 165), (165, .bipush 7, 2, 167), (167, .bipush 101, 2, 169), (169, .iastore, 1, 170), (170, .dup, 1, 171), (171, .bipush 8, 2, 173), (173, .bipush 115, 2, 175), (175, .iastore, 1, 176), (176, .dup, 1, 177), (177, .bipush 9, 2, 179), (179, .bipush 116, 2, 181), (181, .iastore, 1, 182), (182, .dup, 1, 183), (183, .bipush 10, 2, 185), (185, .bipush 32, 2, 187), (187, .iastore, 1, 188), (188, .dup, 1, 189), (189, .bipush 11, 2, 191), (191, .bipush 61, 2, 193), (193, .iastore, 1, 194)]
def T_X9_init_3 : List (Nat × Instr × Nat × Nat) := [(194, .dup, 1, 195), (195, .bipush 12, 2, 197), (197, .bipush 32, 2, 199), (199, .iastore, 1, 200), (200, .dup, 1, 201), (201, .bipush 13, 2, 203), (203, .bipush 48, 2, 205), (205, .iastore, 1, 206), (206, .dup, 1, 207), (207, .bipush 14, 2, 209), (209, .bipush 32, 2, 211), (211, .iastore, 1, 212), (212, .dup, 1, 213), (213, .bipush 15, 2, 215), (215, .bipush 59, 2, 217), (217, .iastore, 1, 218), (218, .dup, 1, 219), (219, .bipush 16, 2, 221), (221, .bipush 32, 2, 223), (223, .iastore, 1, 224), (224, .dup, 1, 225), (225, .bipush 17, 2, 227), (227, .bipush 119, 2, 229), (229, .iastore, 1, 230), (230, .dup, 1, 231), (231, .bipush 18, 2, 233), (233, .bipush 111, 2, 235), (235, .iastore, 1, 236), (236, .dup, 1, 237), (237, .bipush 19, 2, 239), (239, .bipush 114, 2, 241), (241, .iastore, 1, 242), (242, .dup, 1, 243), (243, .bipush 20, 2, 245), (245, .bipush 116, 2, 247), (247, .iastore, 1, 248), (248, .dup, 1, 249), (249, .bipush 21, 2, 251), (251, .bipush 104, 2, 253), (253, .iastore, 1, 254)]
def T_X9_init_4 : List (Nat × Instr × Nat × Nat) := [(254, .dup, 1, 255), (255, .bipush 22, 2, 257), (257, .bipush 32, 2, 259), (259, .iastore, 1, 260), (260, .dup, 1, 261), (261, .bipush 23, 2, 263), (263, .bipush 50, 2, 265), (265, .iastore, 1, 266), (266, .dup, 1, 267), (267, .bipush 24, 2, 269), (269, .bipush 48, 2, 271), (271, .iastore, 1, 272), (272, .dup, 1, 273), (273, .bipush 25, 2, 275), (275, .bipush 32, 2, 277), (277, .iastore, 1, 278), (278, .dup, 1, 279), (279, .bipush 26, 2, 281), (281, .bipush 59, 2, 283), (283, .iastore, 1, 284), (284, .dup, 1, 285), (285, .bipush 27, 2, 287), (287, .bipush 32, 2, 289), (289, .iastore, 1, 290), (290, .dup, 1, 291), (291, .bipush 28, 2, 293), (293, .bipush 104, 2, 295), (295, .iastore, 1, 296), (296, .dup, 1, 297), (297, .bipush 29, 2, 299), (299, .bipush 97, 2, 301), (301, .iastore, 1, 302), (302, .dup, 1, 303), (303, .bipush 30, 2, 305), (305, .bipush 115, 2, 307), (307, .iastore, 1, 308), (308, .dup, 1, 309), (309, .bipush 31, 2, 311), (311, .bipush 116, 2, 313), (313, .iastore, 1, 314)]
def T_X9_init_5 : List (Nat × Instr × Nat × Nat) := [(314, .dup, 1, 315), (315, .bipush 32, 2, 317), (317, .bipush 101, 2, 319), (319, .iastore, 1, 320), (320, .dup, 1, 321), (321, .bipush 33, 2, 323), (323, .bipush 32, 2, 325), (325, .iastore, 1, 326), (326, .dup, 1, 327), (327, .bipush 34, 2, 329), (329, .bipush 109, 2, 331), (331, .iastore, 1, 332), (332, .dup, 1, 333), (333, .bipush 35, 2, 335), (335, .bipush 105, 2, 337), (337, .iastore, 1, 338), (338, .dup, 1, 339), (339, .bipush 36, 2, 341), (341, .bipush 110, 2, 343), (343, .iastore, 1, 344), (344, .dup, 1, 345), (345, .bipush 37, 2, 347), (347, .bipush 117, 2, 349), (349, .iastore, 1, 350), (350, .dup, 1, 351), (351, .bipush 38, 2, 353), (353, .bipush 116, 2, 355), (355, .iastore, 1, 356), (356, .dup, 1, 357), (357, .bipush 39, 2, 359), (359, .bipush 101, 2, 361), (361, .iastore, 1, 362), (362, .dup, 1, 363), (363, .bipush 40, 2, 365), (365, .bipush 32, 2, 367), (367, .iastore, 1, 368), (368, .dup, 1, 369), (369, .bipush 41, 2, 371), (371, .bipush 59, 2, 373), (373, .iastore, 1, 374)]
def T_X9_init_6 : List (Nat × Instr × Nat × Nat) := [(374, .putfield 50, 3, 377), (377, .aload_n 0, 1, 378), (378, .bipush 96, 2, 380), (380, .newarray .int, 2, 382), (382, .dup, 1, 383), (383, .iconst 0, 1, 384), (384, .bipush 111, 2, 386), (386, .iastore, 1, 387), (387, .dup, 1, 388), (388, .iconst 1, 1, 389), (389, .bipush 112, 2, 391), (391, .iastore, 1, 392), (392, .dup, 1, 393), (393, .iconst 2, 1, 394), (394, .bipush 101, 2, 396), (396, .iastore, 1, 397), (397, .dup, 1, 398), (398, .iconst 3, 1, 399), (399, .bipush 110, 2, 401), (401, .iastore, 1, 402), (402, .dup, 1, 403), (403, .iconst 4, 1, 404), (404, .bipush 115, 2, 406), (406, .iastore, 1, 407), (407, .dup, 1, 408), (408, .iconst 5, 1, 409), (409, .bipush 32, 2, 411), (411, .iastore, 1, 412), (412, .dup, 1, 413), (413, .bipush 6, 2, 415), (415, .bipush 32, 2, 417), (417, .iastore, 1, 418), (418, .dup, 1, 419), (419, .bipush 7, 2, 421), (421, .bipush 32, 2, 423), (423, .iastore, 1, 424), (424, .dup, 1, 425), (425, .bipush 8, 2, 427), (427, .bipush 119, 2, 429), (429, .iastore, 1, 430)]
def T_X9_init_7 : List (Nat × Instr × Nat × Nat) := [(430, .dup, 1, 431), (431, .bipush 9, 2, 433), (433, .bipush 111, 2, 435), (435, .iastore, 1, 436), (436, .dup, 1, 437), (437, .bipush 10, 2, 439), (439, .bipush 114, 2, 441), (441, .iastore, 1, 442), (442, .dup, 1, 443), (443, .bipush 11, 2, 445), (445, .bipush 116, 2, 447), (447, .iastore, 1, 448), (448, .dup, 1, 449), (449, .bipush 12, 2, 451), (451, .bipush 104, 2, 453), (453, .iastore, 1, 454), (454, .dup, 1, 455), (455, .bipush 13, 2, 457), (457, .bipush 32, 2, 459), (459, .iastore, 1, 460), (460, .dup, 1, 461), (461, .bipush 14, 2, 463), (463, .bipush 32, 2, 465), (465, .iastore, 1, 466), (466, .dup, 1, 467), (467, .bipush 15, 2, 469), (469, .bipush 32, 2, 471), (471, .iastore, 1, 472), (472, .dup, 1, 473), (473, .bipush 16, 2, 475), (475, .bipush 104, 2, 477), (477, .iastore, 1, 478), (478, .dup, 1, 479), (479, .bipush 17, 2, 481), (481, .bipush 97, 2, 483), (483, .iastore, 1, 484), (484, .dup, 1, 485), (485, .bipush 18, 2, 487), (487, .bipush 115, 2, 489), (489, .iastore, 1, 490)]
def T_X9_init_8 : List (Nat × Instr × Nat × Nat) := [(490, .dup, 1, 491), (491, .bipush 19, 2, 493), (493, .bipush 116, 2, 495), (495, .iastore, 1, 496), (496, .dup, 1, 497), (497, .bipush 20, 2, 499), (499, .bipush 101, 2, 501), (501, .iastore, 1, 502), (502, .dup, 1, 503), (503, .bipush 21, 2, 505), (505, .bipush 32, 2, 507), (507, .iastore, 1, 508), (508, .dup, 1, 509), (509, .bipush 22, 2, 511), (511, .bipush 32, 2, 513), (513, .iastore, 1, 514), (514, .dup, 1, 515), (515, .bipush 23, 2, 517), (517, .bipush 32, 2, 519), (519, .iastore, 1, 520), (520, .dup, 1, 521), (521, .bipush 24, 2, 523), (523, .bipush 115, 2, 525), (525, .iastore, 1, 526), (526, .dup, 1, 527), (527, .bipush 25, 2, 529), (529, .bipush 117, 2, 531), (531, .iastore, 1, 532), (532, .dup, 1, 533), (533, .bipush 26, 2, 535), (535, .bipush 109, 2, 537), (537, .iastore, 1, 538), (538, .dup, 1, 539), (539, .bipush 27, 2, 541), (541, .bipush 32, 2, 543), (543, .iastore, 1, 544), (544, .dup, 1, 545), (545, .bipush 28, 2, 547), (547, .bipush 32, 2, 549), (549, .iastore, 1, 550)]
def T_X9_init_9 : List (Nat × Instr × Nat × Nat) := [(550, .dup, 1, 551), (551, .bipush 29, 2, 553), (553, .bipush 32, 2, 555), (555, .iastore, 1, 556), (556, .dup, 1, 557), (557, .bipush 30, 2, 559), (559, .bipush 32, 2, 561), (561, .iastore, 1, 562), (562, .dup, 1, 563), (563, .bipush 31, 2, 565), (565, .bipush 32, 2, 567), (567, .iastore, 1, 568), (568, .dup, 1, 569), (569, .bipush 32, 2, 571), (571, .bipush 114, 2, 573), (573, .iastore, 1, 574), (574, .dup, 1, 575), (575, .bipush 33, 2, 577), (577, .bipush 101, 2, 579), (579, .iastore, 1, 580), (580, .dup, 1, 581), (581, .bipush 34, 2, 583), (583, .bipush 115, 2, 585), (585, .iastore, 1, 586), (586, .dup, 1, 587), (587, .bipush 35, 2, 589), (589, .bipush 116, 2, 591), (591, .iastore, 1, 592), (592, .dup, 1, 593), (593, .bipush 36, 2, 595), (595, .bipush 32, 2, 597), (597, .iastore, 1, 598), (598, .dup, 1, 599), (599, .bipush 37, 2, 601), (601, .bipush 32, 2, 603), (603, .iastore, 1, 604), (604, .dup, 1, 605), (605, .bipush 38, 2, 607), (607, .bipush 32, 2, 609), (609, .iastore, 1, 610)]
def T_X9_init_10 : List (Nat × Instr × Nat × Nat) := [(610, .dup, 1, 611), (611, .bipush 39, 2, 613), (613, .bipush 32, 2, 615), (615, .iastore, 1, 616), (616, .dup, 1, 617), (617, .bipush 40, 2, 619), (619, .bipush 118, 2, 621), (621, .iastore, 1, 622), (622, .dup, 1, 623), (623, .bipush 41, 2, 625), (625, .bipush 97, 2, 627), (627, .iastore, 1, 628), (628, .dup, 1, 629), (629, .bipush 42, 2, 631), (631, .bipush 108, 2, 633), (633, .iastore, 1, 634), (634, .dup, 1, 635), (635, .bipush 43, 2, 637), (637, .bipush 117, 2, 639), (639, .iastore, 1, 640), (640, .dup, 1, 641), (641, .bipush 44, 2, 643), (643, .bipush 101, 2, 645), (645, .iastore, 1, 646), (646, .dup, 1, 647), (647, .bipush 45, 2, 649), (649, .bipush 32, 2, 651), (651, .iastore, 1, 652), (652, .dup, 1, 653), (653, .bipush 46, 2, 655), (655, .bipush 32, 2, 657), (657, .iastore, 1, 658), (658, .dup, 1, 659), (659, .bipush 47, 2, 661), (661, .bipush 32, 2, 663), (663, .iastore, 1, 664), (664, .dup, 1, 665), (665, .bipush 48, 2, 667), (667, .bipush 109, 2, 669), (669, .iastore, 1, 670)]
def T_X9_init_11 : List (Nat × Instr × Nat × Nat) := [(670, .dup, 1, 671), (671, .bipush 49, 2, 673), (673, .bipush 105, 2, 675), (675, .iastore, 1, 676), (676, .dup, 1, 677), (677, .bipush 50, 2, 679), (679, .bipush 110, 2, 681), (681, .iastore, 1, 682), (682, .dup, 1, 683), (683, .bipush 51, 2, 685), (685, .bipush 117, 2, 687), (687, .iastore, 1, 688), (688, .dup, 1, 689), (689, .bipush 52, 2, 691), (691, .bipush 116, 2, 693), (693, .iastore, 1, 694), (694, .dup, 1, 695), (695, .bipush 53, 2, 697), (697, .bipush 101, 2, 699), (699, .iastore, 1, 700), (700, .dup, 1, 701), (701, .bipush 54, 2, 703), (703, .bipush 32, 2, 705), (705, .iastore, 1, 706), (706, .dup, 1, 707), (707, .bipush 55, 2, 709), (709, .bipush 32, 2, 711), (711, .iastore, 1, 712), (712, .dup, 1, 713), (713, .bipush 56, 2, 715), (715, .bipush 99, 2, 717), (717, .iastore, 1, 718), (718, .dup, 1, 719), (719, .bipush 57, 2, 721), (721, .bipush 111, 2, 723), (723, .iastore, 1, 724), (724, .dup, 1, 725), (725, .bipush 58, 2, 727), (727, .bipush 105, 2, 729), (729, .iastore, 1, 730)]
def T_X9_init_12 : List (Nat × Instr × Nat × Nat) := [(730, .dup, 1, 731), (731, .bipush 59, 2, 733), (733, .bipush 110, 2, 735), (735, .iastore, 1, 736), (736, .dup, 1, 737), (737, .bipush 60, 2, 739), (739, .bipush 115, 2, 741), (741, .iastore, 1, 742), (742, .dup, 1, 743), (743, .bipush 61, 2, 745), (745, .bipush 32, 2, 747), (747, .iastore, 1, 748), (748, .dup, 1, 749), (749, .bipush 62, 2, 751), (751, .bipush 32, 2, 753), (753, .iastore, 1, 754), (754, .dup, 1, 755), (755, .bipush 63, 2, 757), (757, .bipush 32, 2, 759), (759, .iastore, 1, 760), (760, .dup, 1, 761), (761, .bipush 64, 2, 763), (763, .bipush 119, 2, 765), (765, .iastore, 1, 766), (766, .dup, 1, 767), (767, .bipush 65, 2, 769), (769, .bipush 104, 2, 771), (771, .iastore, 1, 772), (772, .dup, 1, 773), (773, .bipush 66, 2, 775), (775, .bipush 111, 2, 777), (777, .iastore, 1, 778), (778, .dup, 1, 779), (779, .bipush 67, 2, 781), (781, .bipush 32, 2, 783), (783, .iastore, 1, 784), (784, .dup, 1, 785), (785, .bipush 68, 2, 787), (787, .bipush 32, 2, 789), (789, .iastore, 1, 790)]
def T_X9_init_13 : List (Nat × Instr × Nat × Nat) := [(790, .dup, 1, 791), (791, .bipush 69, 2, 793), (793, .bipush 32, 2, 795), (795, .iastore, 1, 796), (796, .dup, 1, 797), (797, .bipush 70, 2, 799), (799, .bipush 32, 2, 801), (801, .iastore, 1, 802), (802, .dup, 1, 803), (803, .bipush 71, 2, 805), (805, .bipush 32, 2, 807), (807, .iastore, 1, 808), (808, .dup, 1, 809), (809, .bipush 72, 2, 811), (811, .bipush 111, 2, 813), (813, .iastore, 1, 814), (814, .dup, 1, 815), (815, .bipush 73, 2, 817), (817, .bipush 114, 2, 819), (819, .iastore, 1, 820), (820, .dup, 1, 821), (821, .bipush 74, 2, 823), (823, .bipush 32, 2, 825), (825, .iastore, 1, 826), (826, .dup, 1, 827), (827, .bipush 75, 2, 829), (829, .bipush 32, 2, 831), (831, .iastore, 1, 832), (832, .dup, 1, 833), (833, .bipush 76, 2, 835), (835, .bipush 32, 2, 837), (837, .iastore, 1, 838), (838, .dup, 1, 839), (839, .bipush 77, 2, 841), (841, .bipush 32, 2, 843), (843, .iastore, 1, 844), (844, .dup, 1, 845), (845, .bipush 78, 2, 847), (847, .bipush 32, 2, 849), (849, .iastore, 1, 850)]
def T_X9_init_14 : List (Nat × Instr × Nat × Nat) := [(850, .dup, 1, 851), (851, .bipush 79, 2, 853), (853, .bipush 32, 2, 855), (855, .iastore, 1, 856), (856, .dup, 1, 857), (857, .bipush 80, 2, 859), (859, .bipush 97, 2, 861), (861, .iastore, 1, 862), (862, .dup, 1, 863), (863, .bipush 81, 2, 865), (865, .bipush 110, 2, 867), (867, .iastore, 1, 868), (868, .dup, 1, 869), (869, .bipush 82, 2, 871), (871, .bipush 100, 2, 873), (873, .iastore, 1, 874), (874, .dup, 1, 875), (875, .bipush 83, 2, 877), (877, .bipush 32, 2, 879), (879, .iastore, 1, 880), (880, .dup, 1, 881), (881, .bipush 84, 2, 883), (883, .bipush 32, 2, 885), (885, .iastore, 1, 886), (886, .dup, 1, 887), (887, .bipush 85, 2, 889), (889, .bipush 32, 2, 891), (891, .iastore, 1, 892), (892, .dup, 1, 893), (893, .bipush 86, 2, 895), (895, .bipush 32, 2, 897), (897, .iastore, 1, 898), (898, .dup, 1, 899), (899, .bipush 87, 2, 901), (901, .bipush 32, 2, 903), (903, .iastore, 1, 904), (904, .dup, 1, 905), (905, .bipush 88, 2, 907), (907, .bipush 110, 2, 909), (909, .iastore, 1, 910)]
def T_X9_init_15 : List (Nat × Instr × Nat × Nat) := [(910, .dup, 1, 911), (911, .bipush 89, 2, 913), (913, .bipush 111, 2, 915), (915, .iastore, 1, 916), (916, .dup, 1, 917), (917, .bipush 90, 2, 919), (919, .bipush 116, 2, 921), (921, .iastore, 1, 922), (922, .dup, 1, 923), (923, .bipush 91, 2, 925), (925, .bipush 32, 2, 927), (927, .iastore, 1, 928), (928, .dup, 1, 929), (929, .bipush 92, 2, 931), (931, .bipush 32, 2, 933), (933, .iastore, 1, 934), (934, .dup, 1, 935), (935, .bipush 93, 2, 937), (937, .bipush 32, 2, 939), (939, .iastore, 1, 940), (940, .dup, 1, 941), (941, .bipush 94, 2, 943), (943, .bipush 32, 2, 945), (945, .iastore, 1, 946), (946, .dup, 1, 947), (947, .bipush 95, 2, 949), (949, .bipush 32, 2, 951), (951, .iastore, 1, 952), (952, .putfield 53, 3, 955), (955, .aload_n 0, 1, 956), (956, .sipush 200, 3, 959), (959, .newarray .int, 2, 961), (961, .putfield 56, 3, 964), (964, .aload_n 0, 1, 965), (965, .sipush 200, 3, 968), (968, .newarray .int, 2, 970), (970, .putfield 59, 3, 973), (973, .aload_n 0, 1, 974), (974, .bipush 6, 2, 976), (976, .newarray .int, 2, 978)]
def T_X9_init_16 : List (Nat × Instr × Nat × Nat) := [(978, .putfield 62, 3, 981), (981, .aload_n 0, 1, 982), (982, .sipush 4096, 3, 985), (985, .newarray .long, 2, 987), (987, .putfield 65, 3, 990), (990, .aload_n 0, 1, 991), (991, .sipush 4096, 3, 994), (994, .newarray .int, 2, 996), (996, .putfield 69, 3, 999), (999, .aload_n 0, 1, 1000), (1000, .bipush 64, 2, 1002), (1002, .newarray .int, 2, 1004), (1004, .putfield 72, 3, 1007), (1007, .aload_n 0, 1, 1008), (1008, .bipush 28, 2, 1010), (1010, .newarray .int, 2, 1012), (1012, .putfield 75, 3, 1015), (1015, .aload_n 0, 1, 1016), (1016, .bipush 49, 2, 1018), (1018, .newarray .int, 2, 1020), (1020, .putfield 78, 3, 1023), (1023, .aload_n 0, 1, 1024), (1024, .bipush 28, 2, 1026), (1026, .newarray .int, 2, 1028), (1028, .putfield 81, 3, 1031), (1031, .aload_n 0, 1, 1032), (1032, .bipush 49, 2, 1034), (1034, .newarray .int, 2, 1036), (1036, .putfield 84, 3, 1039), (1039, .aload_n 0, 1, 1040), (1040, .iconst 4, 1, 1041), (1041, .newarray .int, 2, 1043), (1043, .putfield 87, 3, 1046), (1046, .iconst 0, 1, 1047), (1047, .istore_n 1, 1, 1048), (1048, .iload_n 1, 1, 1049), (1049, .bipush 42, 2, 1051), (1051, .if_icmp .ge 21, 3, 1054), (1054, .aload_n 0, 1, 1055), (1055, .getfield 26, 3, 1058)]
def T_X9_init_17 : List (Nat × Instr × Nat × Nat) := [(1058, .iload_n 1, 1, 1059), (1059, .aload_n 0, 1, 1060), (1060, .getfield 50, 3, 1063), (1063, .iload_n 1, 1, 1064), (1064, .iaload, 1, 1065), (1065, .iastore, 1, 1066), (1066, .iinc 1 1, 3, 1069), (1069, .goto (-21), 3, 1072), (1072, .aload_n 0, 1, 1073), (1073, .bipush 42, 2, 1075), (1075, .putfield 90, 3, 1078), (1078, .aload_n 0, 1, 1079), (1079, .invokevirtual 93, 3, 1082), (1082, .pop, 1, 1083), (1083, .return_, 1, 1084)]
def T_X9_init : List (Nat × Instr × Nat × Nat) := [(0, .aload_n 0, 1, 1), (1, .invokespecial 1, 3, 4), (4, .aload_n 0, 1, 5), (5, .bipush 9, 2, 7), (7, .putfield 7, 3, 10), (10, .aload_n 0, 1, 11), (11, .bipush 7, 2, 13), (13, .newarray .int, 2, 15), (15, .putfield 13, 3, 18), (18, .aload_n 0, 1, 19), (19, .bipush 7, 2, 21), (21, .newarray .int, 2, 23), (23, .putfield 17, 3, 26), (26, .aload_n 0, 1, 27), (27, .bipush 7, 2, 29), (29, .newarray .int, 2, 31), (31, .putfield 20, 3, 34), (34, .aload_n 0, 1, 35), (35, .bipush 7, 2, 37), (37, .newarray .int, 2, 39), (39, .putfield 23, 3, 42), (42, .aload_n 0, 1, 43), (43, .sipush 160, 3, 46), (46, .newarray .int, 2, 48), (48, .putfield 26, 3, 51), (51, .aload_n 0, 1, 52), (52, .sipush 1200, 3, 55), (55, .newarray .int, 2, 57), (57, .putfield 29, 3, 60), (60, .aload_n 0, 1, 61), (61, .bipush 24, 2, 63), (63, .newarray .int, 2, 65), (65, .putfield 32, 3, 68), (68, .aload_n 0, 1, 69), (69, .bipush 8, 2, 71), (71, .newarray .int, 2, 73), (73, .putfield 35, 3, 76), (76, .aload_n 0, 1, 77), (77, .bipush 7, 2, 79), (79, .newarray .int, 2, 81), (81, .putfield 38, 3, 84), (84, .aload_n 0, 1, 85), (85, .iconst 4, 1, 86), (86, .newarray .int, 2, 88), (88, .dup, 1, 89), (89, .iconst 0, 1, 90), (90, .iconst (-1), 1, 91), (91, .iastore, 1, 92), (92, .dup, 1, 93), (93, .iconst 1, 1, 94), (94, .iconst (-1), 1, 95), (95, .iastore, 1, 96), (96, .dup, 1, 97), (97, .iconst 2, 1, 98), (98, .iconst (-1), 1, 99), (99, .iastore, 1, 100), (100, .dup, 1, 101), (101, .iconst 3, 1, 102), (102, .iconst (-1), 1, 103), (103, .iastore, 1, 104), (104, .putfield 41, 3, 107), (107, .aload_n 0, 1, 108), (108, .iconst 4, 1, 109), (109, .newarray .int, 2, 111), (111, .putfield 44, 3, 114), (114, .aload_n 0, 1, 115), (115, .sipush 160, 3, 118), (118, .newarray .int, 2, 120), (120, .putfield 47, 3, 123), (123, .aload_n 0, 1, 124), (124, .bipush 42, 2, 126), (126, .newarray .int, 2, 128), (128, .dup, 1, 129), (129, .iconst 0, 1, 130), (130, .bipush 111, 2, 132), (132, .iastore, 1, 133), (133, .dup, 1, 134), (134, .iconst 1, 1, 135), (135, .bipush 112, 2, 137), (137, .iastore, 1, 138), (138, .dup, 1, 139), (139, .iconst 2, 1, 140), (140, .bipush 101, 2, 142), (142, .iastore, 1, 143), (143, .dup, 1, 144), (144, .iconst 3, 1, 145), (145, .bipush 110, 2, 147), (147, .iastore, 1, 148), (148, .dup, 1, 149), (149, .iconst 4, 1, 150), (150, .bipush 115, 2, 152), (152, .iastore, 1, 153), (153, .dup, 1, 154), (154, .iconst 5, 1, 155), (155, .bipush 32, 2, 157), (157, .iastore, 1, 158), (158, .dup, 1, 159), (159, .bipush 6, 2, 161), (161, .bipush 114, 2, 163), (163, .iastore, 1, 164), (164, .dup, 1, 165), (165, .bipush 7, 2, 167), (167, .bipush 101, 2, 169), (169, .iastore, 1, 170), (170, .dup, 1, 171), (171, .bipush 8, 2, 173), (173, .bipush 115, 2, 175), (175, .iastore, 1, 176), (176, .dup, 1, 177), (177, .bipush 9, 2, 179), (179, .bipush 116, 2, 181), (181, .iastore, 1, 182), (182, .dup, 1, 183), (183, .bipush 10, 2, 185), (185, .bipush 32, 2, 187), (187, .iastore, 1, 188), (188, .dup, 1, 189), (189, .bipush 11, 2, 191), (191, .bipush 61, 2, 193), (193, .iastore, 1, 194), (194, .dup, 1, 195), (195, .bipush 12, 2, 197), (197, .bipush 32, 2, 199), (199, .iastore, 1, 200), (200, .dup, 1, 201), (201, .bipush 13, 2, 203), (203, .bipush 48, 2, 205), (205, .iastore, 1, 206), (206, .dup, 1, 207), (207, .bipush 14, 2, 209), (209, .bipush 32, 2, 211), (211, .iastore, 1, 212), (212, .dup, 1, 213), (213, .bipush 15, 2, 215), (215, .bipush 59, 2, 217), (217, .iastore, 1, 218), (218, .dup, 1, 219), (219, .bipush 16, 2, 221), (221, .bipush 32, 2, 223), (223, .iastore, 1, 224), (224, .dup, 1, 225), (225, .bipush 17, 2, 227), (227, .bipush 119, 2, 229), (229, .iastore, 1, 230), (230, .dup, 1, 231), (231, .bipush 18, 2, 233), (233, .bipush 111, 2, 235), (235, .iastore, 1, 236), (236, .dup, 1, 237), (237, .bipush 19, 2, 239), (239, .bipush 114, 2, 241), (241, .iastore, 1, 242), (242, .dup, 1, 243), (243, .bipush 20, 2, 245), (245, .bipush 116, 2, 247), (247, .iastore, 1, 248), (248, .dup, 1, 249), (249, .bipush 21, 2, 251), (251, .bipush 104, 2, 253), (253, .iastore, 1, 254), (254, .dup, 1, 255), (255, .bipush 22, 2, 257), (257, .bipush 32, 2, 259), (259, .iastore, 1, 260), (260, .dup, 1, 261), (261, .bipush 23, 2, 263), (263, .bipush 50, 2, 265), (265, .iastore, 1, 266), (266, .dup, 1, 267), (267, .bipush 24, 2, 269), (269, .bipush 48, 2, 271), (271, .iastore, 1, 272), (272, .dup, 1, 273), (273, .bipush 25, 2, 275), (275, .bipush 32, 2, 277), (277, .iastore, 1, 278), (278, .dup, 1, 279), (279, .bipush 26, 2, 281), (281, .bipush 59, 2, 283), (283, .iastore, 1, 284), (284, .dup, 1, 285), (285, .bipush 27, 2, 287), (287, .bipush 32, 2, 289), (289, .iastore, 1, 290), (290, .dup, 1, 291), (291, .bipush 28, 2, 293), (293, .bipush 104, 2, 295), (295, .iastore, 1, 296), (296, .dup, 1, 297), (297, .bipush 29, 2, 299), (299, .bipush 97, 2, 301), (301, .iastore, 1, 302), (302, .dup, 1, 303), (303, .bipush 30, 2, 305), (305, .bipush 115, 2, 307), (307, .iastore, 1, 308), (308, .dup, 1, 309), (309, .bipush 31, 2, 311), (311, .bipush 116, 2, 313), (313, .iastore, 1, 314), (314, .dup, 1, 315), (315, .bipush 32, 2, 317), (317, .bipush 101, 2, 319), (319, .iastore, 1, 320), (320, .dup, 1, 321), (321, .bipush 33, 2, 323), (323, .bipush 32, 2, 325), (325, .iastore, 1, 326), (326, .dup, 1, 327), (327, .bipush 34, 2, 329), (329, .bipush 109, 2, 331), (331, .iastore, 1, 332), (332, .dup, 1, 333), (333, .bipush 35, 2, 335), (335, .bipush 105, 2, 337), (337, .iastore, 1, 338), (338, .dup, 1, 339), (339, .bipush 36, 2, 341), (341, .bipush 110, 2, 343), (343, .iastore, 1, 344), (344, .dup, 1, 345), (345, .bipush 37, 2, 347), (347, .bipush 117, 2, 349), (349, .iastore, 1, 350), (350, .dup, 1, 351), (351, .bipush 38, 2, 353), (353, .bipush 116, 2, 355), (355, .iastore, 1, 356), (356, .dup, 1, 357), (357, .bipush 39, 2, 359), (359, .bipush 101, 2, 361), (361, .iastore, 1, 362), (362, .dup, 1, 363), (363, .bipush 40, 2, 365), (365, .bipush 32, 2, 367), (367, .iastore, 1, 368), (368, .dup, 1, 369), (369, .bipush 41, 2, 371), (371, .bipush 59, 2, 373), (373, .iastore, 1, 374), (374, .putfield 50, 3, 377), (377, .aload_n 0, 1, 378), (378, .bipush 96, 2, 380), (380, .newarray .int, 2, 382), (382, .dup, 1, 383), (383, .iconst 0, 1, 384), (384, .bipush 111, 2, 386), (386, .iastore, 1, 387), (387, .dup, 1, 388), (388, .iconst 1, 1, 389), (389, .bipush 112, 2, 391), (391, .iastore, 1, 392), (392, .dup, 1, 393), (393, .iconst 2, 1, 394), (394, .bipush 101, 2, 396), (396, .iastore, 1, 397), (397, .dup, 1, 398), (398, .iconst 3, 1, 399), (399, .bipush 110, 2, 401), (401, .iastore, 1, 402), (402, .dup, 1, 403), (403, .iconst 4, 1, 404), (404, .bipush 115, 2, 406), (406, .iastore, 1, 407), (407, .dup, 1, 408), (408, .iconst 5, 1, 409), (409, .bipush 32, 2, 411), (411, .iastore, 1, 412), (412, .dup, 1, 413), (413, .bipush 6, 2, 415), (415, .bipush 32, 2, 417), (417, .iastore, 1, 418), (418, .dup, 1, 419), (419, .bipush 7, 2, 421), (421, .bipush 32, 2, 423), (423, .iastore, 1, 424), (424, .dup, 1, 425), (425, .bipush 8, 2, 427), (427, .bipush 119, 2, 429), (429, .iastore, 1, 430), (430, .dup, 1, 431), (431, .bipush 9, 2, 433), (433, .bipush 111, 2, 435), (435, .iastore, 1, 436), (436, .dup, 1, 437), (437, .bipush 10, 2, 439), (439, .bipush 114, 2, 441), (441, .iastore, 1, 442), (442, .dup, 1, 443), (443, .bipush 11, 2, 445), (445, .bipush 116, 2, 447), (447, .iastore, 1, 448), (448, .dup, 1, 449), (449, .bipush 12, 2, 451), (451, .bipush 104, 2, 453), (453, .iastore, 1, 454), (454, .dup, 1, 455), (455, .bipush 13, 2, 457), (457, .bipush 32, 2, 459), (459, .iastore, 1, 460), (460, .dup, 1, 461), (461, .bipush 14, 2, 463), (463, .bipush 32, 2, 465), (465, .iastore, 1, 466), (466, .dup, 1, 467), (467, .bipush 15, 2, 469), (469, .bipush 32, 2, 471), (471, .iastore, 1, 472), (472, .dup, 1, 473), (473, .bipush 16, 2, 475), (475, .bipush 104, 2, 477), (477, .iastore, 1, 478), (478, .dup, 1, 479), (479, .bipush 17, 2, 481), (481, .bipush 97, 2, 483), (483, .iastore, 1, 484), (484, .dup, 1, 485), (485, .bipush 18, 2, 487), (487, .bipush 115, 2, 489), (489, .iastore, 1, 490), (490, .dup, 1, 491), (491, .bipush 19, 2, 493), (493, .bipush 116, 2, 495), (495, .iastore, 1, 496), (496, .dup, 1, 497), (497, .bipush 20, 2, 499), (499, .bipush 101, 2, 501), (501, .iastore, 1, 502), (502, .dup, 1, 503), (503, .bipush 21, 2, 505), (505, .bipush 32, 2, 507), (507, .iastore, 1, 508), (508, .dup, 1, 509), (509, .bipush 22, 2, 511), (511, .bipush 32, 2, 513), (513, .iastore, 1, 514), (514, .dup, 1, 515), (515, .bipush 23, 2, 517), (517, .bipush 32, 2, 519), (519, .iastore, 1, 520), (520, .dup, 1, 521), (521, .bipush 24, 2, 523), (523, .bipush 115, 2, 525), (525, .iastore, 1, 526), (526, .dup, 1, 527), (527, .bipush 25, 2, 529), (529, .bipush 117, 2, 531), (531, .iastore, 1, 532), (532, .dup, 1, 533), (533, .bipush 26, 2, 535), (535, .bipush 109, 2, 537), (537, .iastore, 1, 538), (538, .dup, 1, 539), (539, .bipush 27, 2, 541), (541, .bipush 32, 2, 543), (543, .iastore, 1, 544), (544, .dup, 1, 545), (545, .bipush 28, 2, 547), (547, .bipush 32, 2, 549), (549, .iastore, 1, 550), (550, .dup, 1, 551), (551, .bipush 29, 2, 553), (553, .bipush 32, 2, 555), (555, .iastore, 1, 556), (556, .dup, 1, 557), (557, .bipush 30, 2, 559), (559, .bipush 32, 2, 561), (561, .iastore, 1, 562), (562, .dup, 1, 563), (563, .bipush 31, 2, 565), (565, .bipush 32, 2, 567), (567, .iastore, 1, 568), (568, .dup, 1, 569), (569, .bipush 32, 2, 571), (571, .bipush 114, 2, 573), (573, .iastore, 1, 574), (574, .dup, 1, 575), (575, .bipush 33, 2, 577), (577, .bipush 101, 2, 579), (579, .iastore, 1, 580), (580, .dup, 1, 581), (581, .bipush 34, 2, 583), (583, .bipush 115, 2, 585), (585, .iastore, 1, 586), (586, .dup, 1, 587), (587, .bipush 35, 2, 589), (589, .bipush 116, 2, 591), (591, .iastore, 1, 592), (592, .dup, 1, 593), (593, .bipush 36, 2, 595), (595, .bipush 32, 2, 597), (597, .iastore, 1, 598), (598, .dup, 1, 599), (599, .bipush 37, 2, 601), (601, .bipush 32, 2, 603), (603, .iastore, 1, 604), (604, .dup, 1, 605), (605, .bipush 38, 2, 607), (607, .bipush 32, 2, 609), (609, .iastore, 1, 610), (610, .dup, 1, 611), (611, .bipush 39, 2, 613), (613, .bipush 32, 2, 615), (615, .iastore, 1, 616), (616, .dup, 1, 617), (617, .bipush 40, 2, 619), (619, .bipush 118, 2, 621), (621, .iastore, 1, 622), (622, .dup, 1, 623), (623, .bipush 41, 2, 625), (625, .bipush 97, 2, 627), (627, .iastore, 1, 628), (628, .dup, 1, 629), (629, .bipush 42, 2, 631), (631, .bipush 108, 2, 633), (633, .iastore, 1, 634), (634, .dup, 1, 635), (635, .bipush 43, 2, 637), (637, .bipush 117, 2, 639), (639, .iastore, 1, 640), (640, .dup, 1, 641), (641, .bipush 44, 2, 643), (643, .bipush 101, 2, 645), (645, .iastore, 1, 646), (646, .dup, 1, 647), (647, .bipush 45, 2, 649), (649, .bipush 32, 2, 651), (651, .iastore, 1, 652), (652, .dup, 1, 653), (653, .bipush 46, 2, 655), (655, .bipush 32, 2, 657), (657, .iastore, 1, 658), (658, .dup, 1, 659), (659, .bipush 47, 2, 661), (661, .bipush 32, 2, 663), (663, .iastore, 1, 664), (664, .dup, 1, 665), (665, .bipush 48, 2, 667), (667, .bipush 109, 2, 669), (669, .iastore, 1, 670), (670, .dup, 1, 671), (671, .bipush 49, 2, 673), (673, .bipush 105, 2, 675), (675, .iastore, 1, 676), (676, .dup, 1, 677), (677, .bipush 50, 2, 679), (679, .bipush 110, 2, 681), (681, .iastore, 1, 682), (682, .dup, 1, 683), (683, .bipush 51, 2, 685), (685, .bipush 117, 2, 687), (687, .iastore, 1, 688), (688, .dup, 1, 689), (689, .bipush 52, 2, 691), (691, .bipush 116, 2, 693), (693, .iastore, 1, 694), (694, .dup, 1, 695), (695, .bipush 53, 2, 697), (697, .bipush 101, 2, 699), (699, .iastore, 1, 700), (700, .dup, 1, 701), (701, .bipush 54, 2, 703), (703, .bipush 32, 2, 705), (705, .iastore, 1, 706), (706, .dup, 1, 707), (707, .bipush 55, 2, 709), (709, .bipush 32, 2, 711), (711, .iastore, 1, 712), (712, .dup, 1, 713), (713, .bipush 56, 2, 715), (715, .bipush 99, 2, 717), (717, .iastore, 1, 718), (718, .dup, 1, 719), (719, .bipush 57, 2, 721), (721, .bipush 111, 2, 723), (723, .iastore, 1, 724), (724, .dup, 1, 725), (725, .bipush 58, 2, 727), (727, .bipush 105, 2, 729), (729, .iastore, 1, 730), (730, .dup, 1, 731), (731, .bipush 59, 2, 733), (733, .bipush 110, 2, 735), (735, .iastore, 1, 736), (736, .dup, 1, 737), (737, .bipush 60, 2, 739), (739, .bipush 115, 2, 741), (741, .iastore, 1, 742), (742, .dup, 1, 743), (743, .bipush 61, 2, 745), (745, .bipush 32, 2, 747), (747, .iastore, 1, 748), (748, .dup, 1, 749), (749, .bipush 62, 2, 751), (751, .bipush 32, 2, 753), (753, .iastore, 1, 754), (754, .dup, 1, 755), (755, .bipush 63, 2, 757), (757, .bipush 32, 2, 759), (759, .iastore, 1, 760), (760, .dup, 1, 761), (761, .bipush 64, 2, 763), (763, .bipush 119, 2, 765), (765, .iastore, 1, 766), (766, .dup, 1, 767), (767, .bipush 65, 2, 769), (769, .bipush 104, 2, 771), (771, .iastore, 1, 772), (772, .dup, 1, 773), (773, .bipush 66, 2, 775), (775, .bipush 111, 2, 777), (777, .iastore, 1, 778), (778, .dup, 1, 779), (779, .bipush 67, 2, 781), (781, .bipush 32, 2, 783), (783, .iastore, 1, 784), (784, .dup, 1, 785), (785, .bipush 68, 2, 787), (787, .bipush 32, 2, 789), (789, .iastore, 1, 790), (790, .dup, 1, 791), (791, .bipush 69, 2, 793), (793, .bipush 32, 2, 795), (795, .iastore, 1, 796), (796, .dup, 1, 797), (797, .bipush 70, 2, 799), (799, .bipush 32, 2, 801), (801, .iastore, 1, 802), (802, .dup, 1, 803), (803, .bipush 71, 2, 805), (805, .bipush 32, 2, 807), (807, .iastore, 1, 808), (808, .dup, 1, 809), (809, .bipush 72, 2, 811), (811, .bipush 111, 2, 813), (813, .iastore, 1, 814), (814, .dup, 1, 815), (815, .bipush 73, 2, 817), (817, .bipush 114, 2, 819), (819, .iastore, 1, 820), (820, .dup, 1, 821), (821, .bipush 74, 2, 823), (823, .bipush 32, 2, 825), (825, .iastore, 1, 826), (826, .dup, 1, 827), (827, .bipush 75, 2, 829), (829, .bipush 32, 2, 831), (831, .iastore, 1, 832), (832, .dup, 1, 833), (833, .bipush 76, 2, 835), (835, .bipush 32, 2, 837), (837, .iastore, 1, 838), (838, .dup, 1, 839), (839, .bipush 77, 2, 841), (841, .bipush 32, 2, 843), (843, .iastore, 1, 844), (844, .dup, 1, 845), (845, .bipush 78, 2, 847), (847, .bipush 32, 2, 849), (849, .iastore, 1, 850), (850, .dup, 1, 851), (851, .bipush 79, 2, 853), (853, .bipush 32, 2, 855), (855, .iastore, 1, 856), (856, .dup, 1, 857), (857, .bipush 80, 2, 859), (859, .bipush 97, 2, 861), (861, .iastore, 1, 862), (862, .dup, 1, 863), (863, .bipush 81, 2, 865), (865, .bipush 110, 2, 867), (867, .iastore, 1, 868), (868, .dup, 1, 869), (869, .bipush 82, 2, 871), (871, .bipush 100, 2, 873), (873, .iastore, 1, 874), (874, .dup, 1, 875), (875, .bipush 83, 2, 877), (877, .bipush 32, 2, 879), (879, .iastore, 1, 880), (880, .dup, 1, 881), (881, .bipush 84, 2, 883), (883, .bipush 32, 2, 885), (885, .iastore, 1, 886), (886, .dup, 1, 887), (887, .bipush 85, 2, 889), (889, .bipush 32, 2, 891), (891, .iastore, 1, 892), (892, .dup, 1, 893), (893, .bipush 86, 2, 895), (895, .bipush 32, 2, 897), (897, .iastore, 1, 898), (898, .dup, 1, 899), (899, .bipush 87, 2, 901), (901, .bipush 32, 2, 903), (903, .iastore, 1, 904), (904, .dup, 1, 905), (905, .bipush 88, 2, 907), (907, .bipush 110, 2, 909), (909, .iastore, 1, 910), (910, .dup, 1, 911), (911, .bipush 89, 2, 913), (913, .bipush 111, 2, 915), (915, .iastore, 1, 916), (916, .dup, 1, 917), (917, .bipush 90, 2, 919), (919, .bipush 116, 2, 921), (921, .iastore, 1, 922), (922, .dup, 1, 923), (923, .bipush 91, 2, 925), (925, .bipush 32, 2, 927), (927, .iastore, 1, 928), (928, .dup, 1, 929), (929, .bipush 92, 2, 931), (931, .bipush 32, 2, 933), (933, .iastore, 1, 934), (934, .dup, 1, 935), (935, .bipush 93, 2, 937), (937, .bipush 32, 2, 939), (939, .iastore, 1, 940), (940, .dup, 1, 941), (941, .bipush 94, 2, 943), (943, .bipush 32, 2, 945), (945, .iastore, 1, 946), (946, .dup, 1, 947), (947, .bipush 95, 2, 949), (949, .bipush 32, 2, 951), (951, .iastore, 1, 952), (952, .putfield 53, 3, 955), (955, .aload_n 0, 1, 956), (956, .sipush 200, 3, 959), (959, .newarray .int, 2, 961), (961, .putfield 56, 3, 964), (964, .aload_n 0, 1, 965), (965, .sipush 200, 3, 968), (968, .newarray .int, 2, 970), (970, .putfield 59, 3, 973), (973, .aload_n 0, 1, 974), (974, .bipush 6, 2, 976), (976, .newarray .int, 2, 978), (978, .putfield 62, 3, 981), (981, .aload_n 0, 1, 982), (982, .sipush 4096, 3, 985), (985, .newarray .long, 2, 987), (987, .putfield 65, 3, 990), (990, .aload_n 0, 1, 991), (991, .sipush 4096, 3, 994), (994, .newarray .int, 2, 996), (996, .putfield 69, 3, 999), (999, .aload_n 0, 1, 1000), (1000, .bipush 64, 2, 1002), (1002, .newarray .int, 2, 1004), (1004, .putfield 72, 3, 1007), (1007, .aload_n 0, 1, 1008), (1008, .bipush 28, 2, 1010), (1010, .newarray .int, 2, 1012), (1012, .putfield 75, 3, 1015), (1015, .aload_n 0, 1, 1016), (1016, .bipush 49, 2, 1018), (1018, .newarray .int, 2, 1020), (1020, .putfield 78, 3, 1023), (1023, .aload_n 0, 1, 1024), (1024, .bipush 28, 2, 1026), (1026, .newarray .int, 2, 1028), (1028, .putfield 81, 3, 1031), (1031, .aload_n 0, 1, 1032), (1032, .bipush 49, 2, 1034), (1034, .newarray .int, 2, 1036), (1036, .putfield 84, 3, 1039), (1039, .aload_n 0, 1, 1040), (1040, .iconst 4, 1, 1041), (1041, .newarray .int, 2, 1043), (1043, .putfield 87, 3, 1046), (1046, .iconst 0, 1, 1047), (1047, .istore_n 1, 1, 1048), (1048, .iload_n 1, 1, 1049), (1049, .bipush 42, 2, 1051), (1051, .if_icmp .ge 21, 3, 1054), (1054, .aload_n 0, 1, 1055), (1055, .getfield 26, 3, 1058), (1058, .iload_n 1, 1, 1059), (1059, .aload_n 0, 1, 1060), (1060, .getfield 50, 3, 1063), (1063, .iload_n 1, 1, 1064), (1064, .iaload, 1, 1065), (1065, .iastore, 1, 1066), (1066, .iinc 1 1, 3, 1069), (1069, .goto (-21), 3, 1072), (1072, .aload_n 0, 1, 1073), (1073, .bipush 42, 2, 1075), (1075, .putfield 90, 3, 1078), (1078, .aload_n 0, 1, 1079), (1079, .invokevirtual 93, 3, 1082), (1082, .pop, 1, 1083), (1083, .return_, 1, 1084)]
def I_X9_init : MI := (prog_11_method_1_code, 2, none, "OpensAtNineModel", "<init>", T_X9_init, 25, 10553, 6, 169)
theorem dT_X9_init_0 : ∀ q ∈ T_X9_init_0, decode prog_11_method_1_code q.1 = .ok (q.2.1, q.2.2.1) ∧ q.2.2.2 = q.1 + q.2.2.1 := by decide +kernel
theorem dT_X9_init_1 : ∀ q ∈ T_X9_init_1, decode prog_11_method_1_code q.1 = .ok (q.2.1, q.2.2.1) ∧ q.2.2.2 = q.1 + q.2.2.1 := by decide +kernel
theorem dT_X9_init_2 : ∀ q ∈ T_X9_init_2, decode prog_11_method_1_code q.1 = .ok (q.2.1, q.2.2.1) ∧ q.2.2.2 = q.1 + q.2.2.1 := by decide +kernel
theorem dT_X9_init_3 : ∀ q ∈ T_X9_init_3, decode prog_11_method_1_code q.1 = .ok (q.2.1, q.2.2.1) ∧ q.2.2.2 = q.1 + q.2.2.1 := by decide +kernel
theorem dT_X9_init_4 : ∀ q ∈ T_X9_init_4, decode prog_11_method_1_code q.1 = .ok (q.2.1, q.2.2.1) ∧ q.2.2.2 = q.1 + q.2.2.1 := by decide +kernel
theorem dT_X9_init_5 : ∀ q ∈ T_X9_init_5, decode prog_11_method_1_code q.1 = .ok (q.2.1, q.2.2.1) ∧ q.2.2.2 = q.1 + q.2.2.1 := by decide +kernel
theorem dT_X9_init_6 : ∀ q ∈ T_X9_init_6, decode prog_11_method_1_code q.1 = .ok (q.2.1, q.2.2.1) ∧ q.2.2.2 = q.1 + q.2.2.1 := by decide +kernel
theorem dT_X9_init_7 : ∀ q ∈ T_X9_init_7, decode prog_11_method_1_code q.1 = .ok (q.2.1, q.2.2.1) ∧ q.2.2.2 = q.1 + q.2.2.1 := by decide +kernel
theorem dT_X9_init_8 : ∀ q ∈ T_X9_init_8, decode prog_11_method_1_code q.1 = .ok (q.2.1, q.2.2.1) ∧ q.2.2.2 = q.1 + q.2.2.1 := by decide +kernel
theorem dT_X9_init_9 : ∀ q ∈ T_X9_init_9, decode prog_11_method_1_code q.1 = .ok (q.2.1, q.2.2.1) ∧ q.2.2.2 = q.1 + q.2.2.1 := by decide +kernel
theorem dT_X9_init_10 : ∀ q ∈ T_X9_init_10, decode prog_11_method_1_code q.1 = .ok (q.2.1, q.2.2.1) ∧ q.2.2.2 = q.1 + q.2.2.1 := by decide +kernel
theorem dT_X9_init_11 : ∀ q ∈ T_X9_init_11, decode prog_11_method_1_code q.1 = .ok (q.2.1, q.2.2.1) ∧ q.2.2.2 = q.1 + q.2.2.1 := by decide +kernel
theorem dT_X9_init_12 : ∀ q ∈ T_X9_init_12, decode prog_11_method_1_code q.1 = .ok (q.2.1, q.2.2.1) ∧ q.2.2.2 = q.1 + q.2.2.1 := by decide +kernel
theorem dT_X9_init_13 : ∀ q ∈ T_X9_init_13, decode prog_11_method_1_code q.1 = .ok (q.2.1, q.2.2.1) ∧ q.2.2.2 = q.1 + q.2.2.1 := by decide +kernel
theorem dT_X9_init_14 : ∀ q ∈ T_X9_init_14, decode prog_11_method_1_code q.1 = .ok (q.2.1, q.2.2.1) ∧ q.2.2.2 = q.1 + q.2.2.1 := by decide +kernel
theorem dT_X9_init_15 : ∀ q ∈ T_X9_init_15, decode prog_11_method_1_code q.1 = .ok (q.2.1, q.2.2.1) ∧ q.2.2.2 = q.1 + q.2.2.1 := by decide +kernel
theorem dT_X9_init_16 : ∀ q ∈ T_X9_init_16, decode prog_11_method_1_code q.1 = .ok (q.2.1, q.2.2.1) ∧ q.2.2.2 = q.1 + q.2.2.1 := by decide +kernel
theorem dT_X9_init_17 : ∀ q ∈ T_X9_init_17, decode prog_11_method_1_code q.1 = .ok (q.2.1, q.2.2.1) ∧ q.2.2.2 = q.1 + q.2.2.1 := by decide +kernel
set_option maxRecDepth 20000 in
theorem dT_X9_init : ∀ q ∈ T_X9_init, decode prog_11_method_1_code q.1 = .ok (q.2.1, q.2.2.1) ∧ q.2.2.2 = q.1 + q.2.2.1 := by
  show ∀ q ∈ (T_X9_init_0 ++ (T_X9_init_1 ++ (T_X9_init_2 ++ (T_X9_init_3 ++ (T_X9_init_4 ++ (T_X9_init_5 ++ (T_X9_init_6 ++ (T_X9_init_7 ++ (T_X9_init_8 ++ (T_X9_init_9 ++ (T_X9_init_10 ++ (T_X9_init_11 ++ (T_X9_init_12 ++ (T_X9_init_13 ++ (T_X9_init_14 ++ (T_X9_init_15 ++ (T_X9_init_16 ++ (T_X9_init_17)))))))))))))))))), decode prog_11_method_1_code q.1 = .ok (q.2.1, q.2.2.1) ∧ q.2.2.2 = q.1 + q.2.2.1
  exact List.forall_mem_append.mpr ⟨dT_X9_init_0, List.forall_mem_append.mpr ⟨dT_X9_init_1, List.forall_mem_append.mpr ⟨dT_X9_init_2, List.forall_mem_append.mpr ⟨dT_X9_init_3, List.forall_mem_append.mpr ⟨dT_X9_init_4, List.forall_mem_append.mpr ⟨dT_X9_init_5, List.forall_mem_append.mpr ⟨dT_X9_init_6, List.forall_mem_append.mpr ⟨dT_X9_init_7, List.forall_mem_append.mpr ⟨dT_X9_init_8, List.forall_mem_append.mpr ⟨dT_X9_init_9, List.forall_mem_append.mpr ⟨dT_X9_init_10, List.forall_mem_append.mpr ⟨dT_X9_init_11, List.forall_mem_append.mpr ⟨dT_X9_init_12, List.forall_mem_append.mpr ⟨dT_X9_init_13, List.forall_mem_append.mpr ⟨dT_X9_init_14, List.forall_mem_append.mpr ⟨dT_X9_init_15, List.forall_mem_append.mpr ⟨dT_X9_init_16, dT_X9_init_17⟩⟩⟩⟩⟩⟩⟩⟩⟩⟩⟩⟩⟩⟩⟩⟩⟩
theorem xm_X9_init : xCI y_X9_init I_X9_init 0 := ⟨⟨rfl, rfl⟩, tw963, tw84, tw964, ⟨by decide +kernel, by decide +kernel, by decide +kernel⟩⟩
noncomputable def fb_X9_init_1048 (k_1048 : XM → Option Nat → Int32 → Option (XM)) (h : XM) (l0 : Option Nat) (l1 : Int32) : Option (XM) := if l1 < ((42 : Int32)) then ((gR h 9 l0 11).bind fun v1 => (gR h 9 l0 23).bind fun v2 => (rI h v2 l1).bind fun v3 => (sI h v1 l1 v3).bind fun h4 => bnd (l1 + (1 : Int32)) fun v5 => k_1048 h4 l0 v5) else ((pI h 9 l0 12 ((42 : Int32))).bind fun h6 => (vc h6 9 l0 (f_X9_text h6 l0)).bind fun q7 => some q7.2)
noncomputable def f_X9_init_1048 (n : Nat) : XM → Option Nat → Int32 → Option (XM) := Nat.rec (motive := fun _ => XM → Option Nat → Int32 → Option (XM)) (fun _ _ _ => none) (fun _ ih h l0 l1 => fb_X9_init_1048 ih h l0 l1) n
noncomputable def f_X9_init (h : XM) (a0 : Option Nat) : Option (XM) := (a0).bind fun _ => (pI h 9 a0 0 ((9 : Int32))).bind fun h8 => (nA h8 10 7 ((7 : Int32))).bind fun h9 => (pR h9 9 a0 6 (some (xc h8))).bind fun h10 => (nA h10 10 7 ((7 : Int32))).bind fun h11 => (pR h11 9 a0 7 (some (xc h10))).bind fun h12 => (nA h12 10 7 ((7 : Int32))).bind fun h13 => (pR h13 9 a0 8 (some (xc h12))).bind fun h14 => (nA h14 10 7 ((7 : Int32))).bind fun h15 => (pR h15 9 a0 9 (some (xc h14))).bind fun h16 => (nA h16 10 160 ((160 : Int32))).bind fun h17 => (pR h17 9 a0 11 (some (xc h16))).bind fun h18 => (nA h18 10 1200 ((1200 : Int32))).bind fun h19 => (pR h19 9 a0 13 (some (xc h18))).bind fun h20 => (nA h20 10 24 ((24 : Int32))).bind fun h21 => (pR h21 9 a0 14 (some (xc h20))).bind fun h22 => (nA h22 10 8 ((8 : Int32))).bind fun h23 => (pR h23 9 a0 18 (some (xc h22))).bind fun h24 => (nA h24 10 7 ((7 : Int32))).bind fun h25 => (pR h25 9 a0 19 (some (xc h24))).bind fun h26 => (nA h26 10 4 ((4 : Int32))).bind fun h27 => (sI h27 (some (xc h26)) ((0 : Int32)) ((-1 : Int32))).bind fun h28 => (sI h28 (some (xc h26)) ((1 : Int32)) ((-1 : Int32))).bind fun h29 => (sI h29 (some (xc h26)) ((2 : Int32)) ((-1 : Int32))).bind fun h30 => (sI h30 (some (xc h26)) ((3 : Int32)) ((-1 : Int32))).bind fun h31 => (pR h31 9 a0 20 (some (xc h26))).bind fun h32 => (nA h32 10 4 ((4 : Int32))).bind fun h33 => (pR h33 9 a0 21 (some (xc h32))).bind fun h34 => (nA h34 10 160 ((160 : Int32))).bind fun h35 => (pR h35 9 a0 22 (some (xc h34))).bind fun h36 => (nA h36 10 42 ((42 : Int32))).bind fun h37 => (sI h37 (some (xc h36)) ((0 : Int32)) ((111 : Int32))).bind fun h38 => (sI h38 (some (xc h36)) ((1 : Int32)) ((112 : Int32))).bind fun h39 => (sI h39 (some (xc h36)) ((2 : Int32)) ((101 : Int32))).bind fun h40 => (sI h40 (some (xc h36)) ((3 : Int32)) ((110 : Int32))).bind fun h41 => (sI h41 (some (xc h36)) ((4 : Int32)) ((115 : Int32))).bind fun h42 => (sI h42 (some (xc h36)) ((5 : Int32)) ((32 : Int32))).bind fun h43 => (sI h43 (some (xc h36)) ((6 : Int32)) ((114 : Int32))).bind fun h44 => (sI h44 (some (xc h36)) ((7 : Int32)) ((101 : Int32))).bind fun h45 => (sI h45 (some (xc h36)) ((8 : Int32)) ((115 : Int32))).bind fun h46 => (sI h46 (some (xc h36)) ((9 : Int32)) ((116 : Int32))).bind fun h47 => (sI h47 (some (xc h36)) ((10 : Int32)) ((32 : Int32))).bind fun h48 => (sI h48 (some (xc h36)) ((11 : Int32)) ((61 : Int32))).bind fun h49 => (sI h49 (some (xc h36)) ((12 : Int32)) ((32 : Int32))).bind fun h50 => (sI h50 (some (xc h36)) ((13 : Int32)) ((48 : Int32))).bind fun h51 => (sI h51 (some (xc h36)) ((14 : Int32)) ((32 : Int32))).bind fun h52 => (sI h52 (some (xc h36)) ((15 : Int32)) ((59 : Int32))).bind fun h53 => (sI h53 (some (xc h36)) ((16 : Int32)) ((32 : Int32))).bind fun h54 => (sI h54 (some (xc h36)) ((17 : Int32)) ((119 : Int32))).bind fun h55 => (sI h55 (some (xc h36)) ((18 : Int32)) ((111 : Int32))).bind fun h56 => (sI h56 (some (xc h36)) ((19 : Int32)) ((114 : Int32))).bind fun h57 => (sI h57 (some (xc h36)) ((20 : Int32)) ((116 : Int32))).bind fun h58 => (sI h58 (some (xc h36)) ((21 : Int32)) ((104 : Int32))).bind fun h59 => (sI h59 (some (xc h36)) ((22 : Int32)) ((32 : Int32))).bind fun h60 => (sI h60 (some (xc h36)) ((23 : Int32)) ((50 : Int32))).bind fun h61 => (sI h61 (some (xc h36)) ((24 : Int32)) ((48 : Int32))).bind fun h62 => (sI h62 (some (xc h36)) ((25 : Int32)) ((32 : Int32))).bind fun h63 => (sI h63 (some (xc h36)) ((26 : Int32)) ((59 : Int32))).bind fun h64 => (sI h64 (some (xc h36)) ((27 : Int32)) ((32 : Int32))).bind fun h65 => (sI h65 (some (xc h36)) ((28 : Int32)) ((104 : Int32))).bind fun h66 => (sI h66 (some (xc h36)) ((29 : Int32)) ((97 : Int32))).bind fun h67 => (sI h67 (some (xc h36)) ((30 : Int32)) ((115 : Int32))).bind fun h68 => (sI h68 (some (xc h36)) ((31 : Int32)) ((116 : Int32))).bind fun h69 => (sI h69 (some (xc h36)) ((32 : Int32)) ((101 : Int32))).bind fun h70 => (sI h70 (some (xc h36)) ((33 : Int32)) ((32 : Int32))).bind fun h71 => (sI h71 (some (xc h36)) ((34 : Int32)) ((109 : Int32))).bind fun h72 => (sI h72 (some (xc h36)) ((35 : Int32)) ((105 : Int32))).bind fun h73 => (sI h73 (some (xc h36)) ((36 : Int32)) ((110 : Int32))).bind fun h74 => (sI h74 (some (xc h36)) ((37 : Int32)) ((117 : Int32))).bind fun h75 => (sI h75 (some (xc h36)) ((38 : Int32)) ((116 : Int32))).bind fun h76 => (sI h76 (some (xc h36)) ((39 : Int32)) ((101 : Int32))).bind fun h77 => (sI h77 (some (xc h36)) ((40 : Int32)) ((32 : Int32))).bind fun h78 => (sI h78 (some (xc h36)) ((41 : Int32)) ((59 : Int32))).bind fun h79 => (pR h79 9 a0 23 (some (xc h36))).bind fun h80 => (nA h80 10 96 ((96 : Int32))).bind fun h81 => (sI h81 (some (xc h80)) ((0 : Int32)) ((111 : Int32))).bind fun h82 => (sI h82 (some (xc h80)) ((1 : Int32)) ((112 : Int32))).bind fun h83 => (sI h83 (some (xc h80)) ((2 : Int32)) ((101 : Int32))).bind fun h84 => (sI h84 (some (xc h80)) ((3 : Int32)) ((110 : Int32))).bind fun h85 => (sI h85 (some (xc h80)) ((4 : Int32)) ((115 : Int32))).bind fun h86 => (sI h86 (some (xc h80)) ((5 : Int32)) ((32 : Int32))).bind fun h87 => (sI h87 (some (xc h80)) ((6 : Int32)) ((32 : Int32))).bind fun h88 => (sI h88 (some (xc h80)) ((7 : Int32)) ((32 : Int32))).bind fun h89 => (sI h89 (some (xc h80)) ((8 : Int32)) ((119 : Int32))).bind fun h90 => (sI h90 (some (xc h80)) ((9 : Int32)) ((111 : Int32))).bind fun h91 => (sI h91 (some (xc h80)) ((10 : Int32)) ((114 : Int32))).bind fun h92 => (sI h92 (some (xc h80)) ((11 : Int32)) ((116 : Int32))).bind fun h93 => (sI h93 (some (xc h80)) ((12 : Int32)) ((104 : Int32))).bind fun h94 => (sI h94 (some (xc h80)) ((13 : Int32)) ((32 : Int32))).bind fun h95 => (sI h95 (some (xc h80)) ((14 : Int32)) ((32 : Int32))).bind fun h96 => (sI h96 (some (xc h80)) ((15 : Int32)) ((32 : Int32))).bind fun h97 => (sI h97 (some (xc h80)) ((16 : Int32)) ((104 : Int32))).bind fun h98 => (sI h98 (some (xc h80)) ((17 : Int32)) ((97 : Int32))).bind fun h99 => (sI h99 (some (xc h80)) ((18 : Int32)) ((115 : Int32))).bind fun h100 => (sI h100 (some (xc h80)) ((19 : Int32)) ((116 : Int32))).bind fun h101 => (sI h101 (some (xc h80)) ((20 : Int32)) ((101 : Int32))).bind fun h102 => (sI h102 (some (xc h80)) ((21 : Int32)) ((32 : Int32))).bind fun h103 => (sI h103 (some (xc h80)) ((22 : Int32)) ((32 : Int32))).bind fun h104 => (sI h104 (some (xc h80)) ((23 : Int32)) ((32 : Int32))).bind fun h105 => (sI h105 (some (xc h80)) ((24 : Int32)) ((115 : Int32))).bind fun h106 => (sI h106 (some (xc h80)) ((25 : Int32)) ((117 : Int32))).bind fun h107 => (sI h107 (some (xc h80)) ((26 : Int32)) ((109 : Int32))).bind fun h108 => (sI h108 (some (xc h80)) ((27 : Int32)) ((32 : Int32))).bind fun h109 => (sI h109 (some (xc h80)) ((28 : Int32)) ((32 : Int32))).bind fun h110 => (sI h110 (some (xc h80)) ((29 : Int32)) ((32 : Int32))).bind fun h111 => (sI h111 (some (xc h80)) ((30 : Int32)) ((32 : Int32))).bind fun h112 => (sI h112 (some (xc h80)) ((31 : Int32)) ((32 : Int32))).bind fun h113 => (sI h113 (some (xc h80)) ((32 : Int32)) ((114 : Int32))).bind fun h114 => (sI h114 (some (xc h80)) ((33 : Int32)) ((101 : Int32))).bind fun h115 => (sI h115 (some (xc h80)) ((34 : Int32)) ((115 : Int32))).bind fun h116 => (sI h116 (some (xc h80)) ((35 : Int32)) ((116 : Int32))).bind fun h117 => (sI h117 (some (xc h80)) ((36 : Int32)) ((32 : Int32))).bind fun h118 => (sI h118 (some (xc h80)) ((37 : Int32)) ((32 : Int32))).bind fun h119 => (sI h119 (some (xc h80)) ((38 : Int32)) ((32 : Int32))).bind fun h120 => (sI h120 (some (xc h80)) ((39 : Int32)) ((32 : Int32))).bind fun h121 => (sI h121 (some (xc h80)) ((40 : Int32)) ((118 : Int32))).bind fun h122 => (sI h122 (some (xc h80)) ((41 : Int32)) ((97 : Int32))).bind fun h123 => (sI h123 (some (xc h80)) ((42 : Int32)) ((108 : Int32))).bind fun h124 => (sI h124 (some (xc h80)) ((43 : Int32)) ((117 : Int32))).bind fun h125 => (sI h125 (some (xc h80)) ((44 : Int32)) ((101 : Int32))).bind fun h126 => (sI h126 (some (xc h80)) ((45 : Int32)) ((32 : Int32))).bind fun h127 => (sI h127 (some (xc h80)) ((46 : Int32)) ((32 : Int32))).bind fun h128 => (sI h128 (some (xc h80)) ((47 : Int32)) ((32 : Int32))).bind fun h129 => (sI h129 (some (xc h80)) ((48 : Int32)) ((109 : Int32))).bind fun h130 => (sI h130 (some (xc h80)) ((49 : Int32)) ((105 : Int32))).bind fun h131 => (sI h131 (some (xc h80)) ((50 : Int32)) ((110 : Int32))).bind fun h132 => (sI h132 (some (xc h80)) ((51 : Int32)) ((117 : Int32))).bind fun h133 => (sI h133 (some (xc h80)) ((52 : Int32)) ((116 : Int32))).bind fun h134 => (sI h134 (some (xc h80)) ((53 : Int32)) ((101 : Int32))).bind fun h135 => (sI h135 (some (xc h80)) ((54 : Int32)) ((32 : Int32))).bind fun h136 => (sI h136 (some (xc h80)) ((55 : Int32)) ((32 : Int32))).bind fun h137 => (sI h137 (some (xc h80)) ((56 : Int32)) ((99 : Int32))).bind fun h138 => (sI h138 (some (xc h80)) ((57 : Int32)) ((111 : Int32))).bind fun h139 => (sI h139 (some (xc h80)) ((58 : Int32)) ((105 : Int32))).bind fun h140 => (sI h140 (some (xc h80)) ((59 : Int32)) ((110 : Int32))).bind fun h141 => (sI h141 (some (xc h80)) ((60 : Int32)) ((115 : Int32))).bind fun h142 => (sI h142 (some (xc h80)) ((61 : Int32)) ((32 : Int32))).bind fun h143 => (sI h143 (some (xc h80)) ((62 : Int32)) ((32 : Int32))).bind fun h144 => (sI h144 (some (xc h80)) ((63 : Int32)) ((32 : Int32))).bind fun h145 => (sI h145 (some (xc h80)) ((64 : Int32)) ((119 : Int32))).bind fun h146 => (sI h146 (some (xc h80)) ((65 : Int32)) ((104 : Int32))).bind fun h147 => (sI h147 (some (xc h80)) ((66 : Int32)) ((111 : Int32))).bind fun h148 => (sI h148 (some (xc h80)) ((67 : Int32)) ((32 : Int32))).bind fun h149 => (sI h149 (some (xc h80)) ((68 : Int32)) ((32 : Int32))).bind fun h150 => (sI h150 (some (xc h80)) ((69 : Int32)) ((32 : Int32))).bind fun h151 => (sI h151 (some (xc h80)) ((70 : Int32)) ((32 : Int32))).bind fun h152 => (sI h152 (some (xc h80)) ((71 : Int32)) ((32 : Int32))).bind fun h153 => (sI h153 (some (xc h80)) ((72 : Int32)) ((111 : Int32))).bind fun h154 => (sI h154 (some (xc h80)) ((73 : Int32)) ((114 : Int32))).bind fun h155 => (sI h155 (some (xc h80)) ((74 : Int32)) ((32 : Int32))).bind fun h156 => (sI h156 (some (xc h80)) ((75 : Int32)) ((32 : Int32))).bind fun h157 => (sI h157 (some (xc h80)) ((76 : Int32)) ((32 : Int32))).bind fun h158 => (sI h158 (some (xc h80)) ((77 : Int32)) ((32 : Int32))).bind fun h159 => (sI h159 (some (xc h80)) ((78 : Int32)) ((32 : Int32))).bind fun h160 => (sI h160 (some (xc h80)) ((79 : Int32)) ((32 : Int32))).bind fun h161 => (sI h161 (some (xc h80)) ((80 : Int32)) ((97 : Int32))).bind fun h162 => (sI h162 (some (xc h80)) ((81 : Int32)) ((110 : Int32))).bind fun h163 => (sI h163 (some (xc h80)) ((82 : Int32)) ((100 : Int32))).bind fun h164 => (sI h164 (some (xc h80)) ((83 : Int32)) ((32 : Int32))).bind fun h165 => (sI h165 (some (xc h80)) ((84 : Int32)) ((32 : Int32))).bind fun h166 => (sI h166 (some (xc h80)) ((85 : Int32)) ((32 : Int32))).bind fun h167 => (sI h167 (some (xc h80)) ((86 : Int32)) ((32 : Int32))).bind fun h168 => (sI h168 (some (xc h80)) ((87 : Int32)) ((32 : Int32))).bind fun h169 => (sI h169 (some (xc h80)) ((88 : Int32)) ((110 : Int32))).bind fun h170 => (sI h170 (some (xc h80)) ((89 : Int32)) ((111 : Int32))).bind fun h171 => (sI h171 (some (xc h80)) ((90 : Int32)) ((116 : Int32))).bind fun h172 => (sI h172 (some (xc h80)) ((91 : Int32)) ((32 : Int32))).bind fun h173 => (sI h173 (some (xc h80)) ((92 : Int32)) ((32 : Int32))).bind fun h174 => (sI h174 (some (xc h80)) ((93 : Int32)) ((32 : Int32))).bind fun h175 => (sI h175 (some (xc h80)) ((94 : Int32)) ((32 : Int32))).bind fun h176 => (sI h176 (some (xc h80)) ((95 : Int32)) ((32 : Int32))).bind fun h177 => (pR h177 9 a0 28 (some (xc h80))).bind fun h178 => (nA h178 10 200 ((200 : Int32))).bind fun h179 => (pR h179 9 a0 29 (some (xc h178))).bind fun h180 => (nA h180 10 200 ((200 : Int32))).bind fun h181 => (pR h181 9 a0 33 (some (xc h180))).bind fun h182 => (nA h182 10 6 ((6 : Int32))).bind fun h183 => (pR h183 9 a0 34 (some (xc h182))).bind fun h184 => (nA h184 11 4096 ((4096 : Int32))).bind fun h185 => (pR h185 9 a0 35 (some (xc h184))).bind fun h186 => (nA h186 10 4096 ((4096 : Int32))).bind fun h187 => (pR h187 9 a0 36 (some (xc h186))).bind fun h188 => (nA h188 10 64 ((64 : Int32))).bind fun h189 => (pR h189 9 a0 38 (some (xc h188))).bind fun h190 => (nA h190 10 28 ((28 : Int32))).bind fun h191 => (pR h191 9 a0 43 (some (xc h190))).bind fun h192 => (nA h192 10 49 ((49 : Int32))).bind fun h193 => (pR h193 9 a0 44 (some (xc h192))).bind fun h194 => (nA h194 10 28 ((28 : Int32))).bind fun h195 => (pR h195 9 a0 45 (some (xc h194))).bind fun h196 => (nA h196 10 49 ((49 : Int32))).bind fun h197 => (pR h197 9 a0 46 (some (xc h196))).bind fun h198 => (nA h198 10 4 ((4 : Int32))).bind fun h199 => (pR h199 9 a0 47 (some (xc h198))).bind fun h200 => f_X9_init_1048 FU h200 a0 ((0 : Int32))
set_option maxRecDepth 20000 in
theorem bb_X9_init_1048 (X : XX) (k_1048 : XM → Option Nat → Int32 → Option (XM)) (hk_1048 : ∀ h l0 l1, SW X I_X9_init ρv 1048 [(0, tA l0), (1, tI l1)] [] h 0 0 (k_1048 h l0 l1)) (h : XM) (l0 : Option Nat) (l1 : Int32) : SW X I_X9_init ρv 1048 [(0, tA l0), (1, tI l1)] [] h 0 0 (fb_X9_init_1048 k_1048 h l0 l1) := by
  unfold fb_X9_init_1048
  refine s_iload_n (i := 675) rfl 1 rfl ?_
  refine s_bud 0 0 (by omega) (by omega) ?_
  refine s_bipush (i := 676) rfl (v := (42 : Int32)) (by decide) ?_
  refine s_bud 0 0 (by omega) (by omega) ?_
  refine s_icmpge (i := 677) rfl (tgt := 1072) (by decide) (fun z1051 => ?_) (fun z1051 => ?_)
  · refine s_bud 0 0 (by omega) (by omega) ?_
    refine s_aload_n (i := 678) rfl 0 rfl ?_
    refine s_bud 0 0 (by omega) (by omega) ?_
    refine s_getR (i := 679) rfl xf_9_26.r rfl (fun v1 => ?_)
    refine s_bud 0 0 (by omega) (by omega) ?_
    refine s_iload_n (i := 680) rfl 1 rfl ?_
    refine s_bud 0 0 (by omega) (by omega) ?_
    refine s_aload_n (i := 681) rfl 0 rfl ?_
    refine s_bud 0 0 (by omega) (by omega) ?_
    refine s_getR (i := 682) rfl xf_9_50.r rfl (fun v2 => ?_)
    refine s_bud 0 0 (by omega) (by omega) ?_
    refine s_iload_n (i := 683) rfl 1 rfl ?_
    refine s_bud 0 0 (by omega) (by omega) ?_
    refine s_iaload (i := 684) rfl (fun v3 => ?_)
    refine s_bud 0 0 (by omega) (by omega) ?_
    refine s_iastore (i := 685) rfl (fun h4 => ?_)
    refine s_bud 0 0 (by omega) (by omega) ?_
    refine s_inc (i := 686) rfl 1 rfl (c9 := (1 : Int32)) (by decide) (Nat.le_of_ble_eq_true rfl) (fun v5 => ?_)
    refine s_ls (ls2 := [(1, tI v5), (0, tA l0)]) rfl ?_
    refine s_bud 0 0 (by omega) (by omega) ?_
    refine s_goto (i := 687) rfl (tgt := 1048) (by decide) ?_
    refine s_bud 0 0 (by omega) (by omega) ?_
    exact s_sub [1, 0] rfl (hk_1048 h4 l0 v5)
  · refine s_bud 0 0 (by omega) (by omega) ?_
    refine s_aload_n (i := 688) rfl 0 rfl ?_
    refine s_bud 0 0 (by omega) (by omega) ?_
    refine s_bipush (i := 689) rfl (v := (42 : Int32)) (by decide) ?_
    refine s_bud 0 0 (by omega) (by omega) ?_
    refine s_putI (i := 690) rfl xf_9_90 (fun q => by cases q) rfl rfl (fun h6 => ?_)
    refine s_bud 0 0 (by omega) (by omega) ?_
    refine s_aload_n (i := 691) rfl 0 rfl ?_
    refine s_bud 0 0 (by omega) (by omega) ?_
    refine u_callVi (kk := 9) [] l0 [] rfl (i := 692) rfl (c_X9_text h6 l0) xm_X9_text (tw966) rfl (Nat.le_of_ble_eq_true rfl) (xRm.of rfl) ⟨rfl, rfl⟩ (fun q7 => ?_)
    refine s_bud 0 0 (by omega) (by omega) ?_
    refine s_pop (i := 693) rfl rfl ?_
    refine s_bud 0 0 (by omega) (by omega) ?_
    exact s_vret (i := 694) rfl rfl
set_option maxRecDepth 20000 in
theorem b_X9_init_1048 (X : XX) : ∀ (n : Nat) (h : XM) (l0 : Option Nat) (l1 : Int32), SW X I_X9_init ρv 1048 [(0, tA l0), (1, tI l1)] [] h 0 0 (f_X9_init_1048 n h l0 l1) := by
  intro n
  induction n with
  | zero =>
    intro h l0 l1
    exact s_none
  | succ n ih =>
    intro h l0 l1
    exact bb_X9_init_1048 X (f_X9_init_1048 n) ih h l0 l1
set_option maxRecDepth 20000 in
theorem c_X9_init (h : XM) (a0 : Option Nat) : MC I_X9_init y_X9_init [tA a0] h ρv (f_X9_init h a0) := by
  refine MC_of ⟨by decide +kernel, rfl, rfl, Nat.le_of_ble_eq_true rfl⟩ dT_X9_init (fun X => ?_)
  show SW X I_X9_init ρv 0 [(0, tA a0)] [] h 25 10553 (f_X9_init h a0)
  unfold f_X9_init
  refine s_aload_n (i := 0) rfl 0 rfl ?_
  refine s_bud 25 10553 (by omega) (by omega) ?_
  refine s_objInit (i := 1) rfl ⟨tw965, tw93, tw94⟩ ⟨by decide, by decide⟩ rfl ?_
  refine s_bud 25 10553 (by omega) (by omega) ?_
  refine s_aload_n (i := 2) rfl 0 rfl ?_
  refine s_bud 25 10553 (by omega) (by omega) ?_
  refine s_bipush (i := 3) rfl (v := (9 : Int32)) (by decide) ?_
  refine s_bud 25 10553 (by omega) (by omega) ?_
  refine s_putI (i := 4) rfl xf_9_7 (fun q => by cases q) rfl rfl (fun h8 => ?_)
  refine s_bud 25 10553 (by omega) (by omega) ?_
  refine s_aload_n (i := 5) rfl 0 rfl ?_
  refine s_bud 25 10553 (by omega) (by omega) ?_
  refine s_bipush (i := 6) rfl (v := (7 : Int32)) (by decide) ?_
  refine s_bud 25 10553 (by omega) (by omega) ?_
  refine s_bud (1 + 24) (7 + 10546) (by omega) (by omega) ?_
  refine s_newarr (i := 7) rfl (lim := 7) (Or.inl ⟨rfl, rfl⟩) (by decide) (tw158) (fun h9 => ?_)
  refine s_bud 24 10546 (by omega) (by omega) ?_
  refine s_putR (i := 8) rfl xf_9_13 (fun _ => rfl) rfl (Or.inr ⟨_, rfl⟩) (fun h10 => ?_)
  refine s_bud 24 10546 (by omega) (by omega) ?_
  refine s_aload_n (i := 9) rfl 0 rfl ?_
  refine s_bud 24 10546 (by omega) (by omega) ?_
  refine s_bipush (i := 10) rfl (v := (7 : Int32)) (by decide) ?_
  refine s_bud 24 10546 (by omega) (by omega) ?_
  refine s_bud (1 + 23) (7 + 10539) (by omega) (by omega) ?_
  refine s_newarr (i := 11) rfl (lim := 7) (Or.inl ⟨rfl, rfl⟩) (by decide) (tw158) (fun h11 => ?_)
  refine s_bud 23 10539 (by omega) (by omega) ?_
  refine s_putR (i := 12) rfl xf_9_17 (fun _ => rfl) rfl (Or.inr ⟨_, rfl⟩) (fun h12 => ?_)
  refine s_bud 23 10539 (by omega) (by omega) ?_
  refine s_aload_n (i := 13) rfl 0 rfl ?_
  refine s_bud 23 10539 (by omega) (by omega) ?_
  refine s_bipush (i := 14) rfl (v := (7 : Int32)) (by decide) ?_
  refine s_bud 23 10539 (by omega) (by omega) ?_
  refine s_bud (1 + 22) (7 + 10532) (by omega) (by omega) ?_
  refine s_newarr (i := 15) rfl (lim := 7) (Or.inl ⟨rfl, rfl⟩) (by decide) (tw158) (fun h13 => ?_)
  refine s_bud 22 10532 (by omega) (by omega) ?_
  refine s_putR (i := 16) rfl xf_9_20 (fun _ => rfl) rfl (Or.inr ⟨_, rfl⟩) (fun h14 => ?_)
  refine s_bud 22 10532 (by omega) (by omega) ?_
  refine s_aload_n (i := 17) rfl 0 rfl ?_
  refine s_bud 22 10532 (by omega) (by omega) ?_
  refine s_bipush (i := 18) rfl (v := (7 : Int32)) (by decide) ?_
  refine s_bud 22 10532 (by omega) (by omega) ?_
  refine s_bud (1 + 21) (7 + 10525) (by omega) (by omega) ?_
  refine s_newarr (i := 19) rfl (lim := 7) (Or.inl ⟨rfl, rfl⟩) (by decide) (tw158) (fun h15 => ?_)
  refine s_bud 21 10525 (by omega) (by omega) ?_
  refine s_putR (i := 20) rfl xf_9_23 (fun _ => rfl) rfl (Or.inr ⟨_, rfl⟩) (fun h16 => ?_)
  refine s_bud 21 10525 (by omega) (by omega) ?_
  refine s_aload_n (i := 21) rfl 0 rfl ?_
  refine s_bud 21 10525 (by omega) (by omega) ?_
  refine s_sipush (i := 22) rfl (v := (160 : Int32)) (by decide) ?_
  refine s_bud 21 10525 (by omega) (by omega) ?_
  refine s_bud (1 + 20) (160 + 10365) (by omega) (by omega) ?_
  refine s_newarr (i := 23) rfl (lim := 160) (Or.inl ⟨rfl, rfl⟩) (by decide) (tw158) (fun h17 => ?_)
  refine s_bud 20 10365 (by omega) (by omega) ?_
  refine s_putR (i := 24) rfl xf_9_26 (fun _ => rfl) rfl (Or.inr ⟨_, rfl⟩) (fun h18 => ?_)
  refine s_bud 20 10365 (by omega) (by omega) ?_
  refine s_aload_n (i := 25) rfl 0 rfl ?_
  refine s_bud 20 10365 (by omega) (by omega) ?_
  refine s_sipush (i := 26) rfl (v := (1200 : Int32)) (by decide) ?_
  refine s_bud 20 10365 (by omega) (by omega) ?_
  refine s_bud (1 + 19) (1200 + 9165) (by omega) (by omega) ?_
  refine s_newarr (i := 27) rfl (lim := 1200) (Or.inl ⟨rfl, rfl⟩) (by decide) (tw158) (fun h19 => ?_)
  refine s_bud 19 9165 (by omega) (by omega) ?_
  refine s_putR (i := 28) rfl xf_9_29 (fun _ => rfl) rfl (Or.inr ⟨_, rfl⟩) (fun h20 => ?_)
  refine s_bud 19 9165 (by omega) (by omega) ?_
  refine s_aload_n (i := 29) rfl 0 rfl ?_
  refine s_bud 19 9165 (by omega) (by omega) ?_
  refine s_bipush (i := 30) rfl (v := (24 : Int32)) (by decide) ?_
  refine s_bud 19 9165 (by omega) (by omega) ?_
  refine s_bud (1 + 18) (24 + 9141) (by omega) (by omega) ?_
  refine s_newarr (i := 31) rfl (lim := 24) (Or.inl ⟨rfl, rfl⟩) (by decide) (tw158) (fun h21 => ?_)
  refine s_bud 18 9141 (by omega) (by omega) ?_
  refine s_putR (i := 32) rfl xf_9_32 (fun _ => rfl) rfl (Or.inr ⟨_, rfl⟩) (fun h22 => ?_)
  refine s_bud 18 9141 (by omega) (by omega) ?_
  refine s_aload_n (i := 33) rfl 0 rfl ?_
  refine s_bud 18 9141 (by omega) (by omega) ?_
  refine s_bipush (i := 34) rfl (v := (8 : Int32)) (by decide) ?_
  refine s_bud 18 9141 (by omega) (by omega) ?_
  refine s_bud (1 + 17) (8 + 9133) (by omega) (by omega) ?_
  refine s_newarr (i := 35) rfl (lim := 8) (Or.inl ⟨rfl, rfl⟩) (by decide) (tw158) (fun h23 => ?_)
  refine s_bud 17 9133 (by omega) (by omega) ?_
  refine s_putR (i := 36) rfl xf_9_35 (fun _ => rfl) rfl (Or.inr ⟨_, rfl⟩) (fun h24 => ?_)
  refine s_bud 17 9133 (by omega) (by omega) ?_
  refine s_aload_n (i := 37) rfl 0 rfl ?_
  refine s_bud 17 9133 (by omega) (by omega) ?_
  refine s_bipush (i := 38) rfl (v := (7 : Int32)) (by decide) ?_
  refine s_bud 17 9133 (by omega) (by omega) ?_
  refine s_bud (1 + 16) (7 + 9126) (by omega) (by omega) ?_
  refine s_newarr (i := 39) rfl (lim := 7) (Or.inl ⟨rfl, rfl⟩) (by decide) (tw158) (fun h25 => ?_)
  refine s_bud 16 9126 (by omega) (by omega) ?_
  refine s_putR (i := 40) rfl xf_9_38 (fun _ => rfl) rfl (Or.inr ⟨_, rfl⟩) (fun h26 => ?_)
  refine s_bud 16 9126 (by omega) (by omega) ?_
  refine s_aload_n (i := 41) rfl 0 rfl ?_
  refine s_bud 16 9126 (by omega) (by omega) ?_
  refine s_iconst (i := 42) rfl (v := (4 : Int32)) (by decide) ?_
  refine s_bud 16 9126 (by omega) (by omega) ?_
  refine s_bud (1 + 15) (4 + 9122) (by omega) (by omega) ?_
  refine s_newarr (i := 43) rfl (lim := 4) (Or.inl ⟨rfl, rfl⟩) (by decide) (tw158) (fun h27 => ?_)
  refine s_bud 15 9122 (by omega) (by omega) ?_
  refine s_dup (i := 44) rfl rfl ?_
  refine s_bud 15 9122 (by omega) (by omega) ?_
  refine s_iconst (i := 45) rfl (v := (0 : Int32)) (by decide) ?_
  refine s_bud 15 9122 (by omega) (by omega) ?_
  refine s_iconst (i := 46) rfl (v := (-1 : Int32)) (by decide) ?_
  refine s_bud 15 9122 (by omega) (by omega) ?_
  refine s_iastore (i := 47) rfl (fun h28 => ?_)
  refine s_bud 15 9122 (by omega) (by omega) ?_
  refine s_dup (i := 48) rfl rfl ?_
  refine s_bud 15 9122 (by omega) (by omega) ?_
  refine s_iconst (i := 49) rfl (v := (1 : Int32)) (by decide) ?_
  refine s_bud 15 9122 (by omega) (by omega) ?_
  refine s_iconst (i := 50) rfl (v := (-1 : Int32)) (by decide) ?_
  refine s_bud 15 9122 (by omega) (by omega) ?_
  refine s_iastore (i := 51) rfl (fun h29 => ?_)
  refine s_bud 15 9122 (by omega) (by omega) ?_
  refine s_dup (i := 52) rfl rfl ?_
  refine s_bud 15 9122 (by omega) (by omega) ?_
  refine s_iconst (i := 53) rfl (v := (2 : Int32)) (by decide) ?_
  refine s_bud 15 9122 (by omega) (by omega) ?_
  refine s_iconst (i := 54) rfl (v := (-1 : Int32)) (by decide) ?_
  refine s_bud 15 9122 (by omega) (by omega) ?_
  refine s_iastore (i := 55) rfl (fun h30 => ?_)
  refine s_bud 15 9122 (by omega) (by omega) ?_
  refine s_dup (i := 56) rfl rfl ?_
  refine s_bud 15 9122 (by omega) (by omega) ?_
  refine s_iconst (i := 57) rfl (v := (3 : Int32)) (by decide) ?_
  refine s_bud 15 9122 (by omega) (by omega) ?_
  refine s_iconst (i := 58) rfl (v := (-1 : Int32)) (by decide) ?_
  refine s_bud 15 9122 (by omega) (by omega) ?_
  refine s_iastore (i := 59) rfl (fun h31 => ?_)
  refine s_bud 15 9122 (by omega) (by omega) ?_
  refine s_putR (i := 60) rfl xf_9_41 (fun _ => rfl) rfl (Or.inr ⟨_, rfl⟩) (fun h32 => ?_)
  refine s_bud 15 9122 (by omega) (by omega) ?_
  refine s_aload_n (i := 61) rfl 0 rfl ?_
  refine s_bud 15 9122 (by omega) (by omega) ?_
  refine s_iconst (i := 62) rfl (v := (4 : Int32)) (by decide) ?_
  refine s_bud 15 9122 (by omega) (by omega) ?_
  refine s_bud (1 + 14) (4 + 9118) (by omega) (by omega) ?_
  refine s_newarr (i := 63) rfl (lim := 4) (Or.inl ⟨rfl, rfl⟩) (by decide) (tw158) (fun h33 => ?_)
  refine s_bud 14 9118 (by omega) (by omega) ?_
  refine s_putR (i := 64) rfl xf_9_44 (fun _ => rfl) rfl (Or.inr ⟨_, rfl⟩) (fun h34 => ?_)
  refine s_bud 14 9118 (by omega) (by omega) ?_
  refine s_aload_n (i := 65) rfl 0 rfl ?_
  refine s_bud 14 9118 (by omega) (by omega) ?_
  refine s_sipush (i := 66) rfl (v := (160 : Int32)) (by decide) ?_
  refine s_bud 14 9118 (by omega) (by omega) ?_
  refine s_bud (1 + 13) (160 + 8958) (by omega) (by omega) ?_
  refine s_newarr (i := 67) rfl (lim := 160) (Or.inl ⟨rfl, rfl⟩) (by decide) (tw158) (fun h35 => ?_)
  refine s_bud 13 8958 (by omega) (by omega) ?_
  refine s_putR (i := 68) rfl xf_9_47 (fun _ => rfl) rfl (Or.inr ⟨_, rfl⟩) (fun h36 => ?_)
  refine s_bud 13 8958 (by omega) (by omega) ?_
  refine s_aload_n (i := 69) rfl 0 rfl ?_
  refine s_bud 13 8958 (by omega) (by omega) ?_
  refine s_bipush (i := 70) rfl (v := (42 : Int32)) (by decide) ?_
  refine s_bud 13 8958 (by omega) (by omega) ?_
  refine s_bud (1 + 12) (42 + 8916) (by omega) (by omega) ?_
  refine s_newarr (i := 71) rfl (lim := 42) (Or.inl ⟨rfl, rfl⟩) (by decide) (tw158) (fun h37 => ?_)
  refine s_bud 12 8916 (by omega) (by omega) ?_
  refine s_dup (i := 72) rfl rfl ?_
  refine s_bud 12 8916 (by omega) (by omega) ?_
  refine s_iconst (i := 73) rfl (v := (0 : Int32)) (by decide) ?_
  refine s_bud 12 8916 (by omega) (by omega) ?_
  refine s_bipush (i := 74) rfl (v := (111 : Int32)) (by decide) ?_
  refine s_bud 12 8916 (by omega) (by omega) ?_
  refine s_iastore (i := 75) rfl (fun h38 => ?_)
  refine s_bud 12 8916 (by omega) (by omega) ?_
  refine s_dup (i := 76) rfl rfl ?_
  refine s_bud 12 8916 (by omega) (by omega) ?_
  refine s_iconst (i := 77) rfl (v := (1 : Int32)) (by decide) ?_
  refine s_bud 12 8916 (by omega) (by omega) ?_
  refine s_bipush (i := 78) rfl (v := (112 : Int32)) (by decide) ?_
  refine s_bud 12 8916 (by omega) (by omega) ?_
  refine s_iastore (i := 79) rfl (fun h39 => ?_)
  refine s_bud 12 8916 (by omega) (by omega) ?_
  refine s_dup (i := 80) rfl rfl ?_
  refine s_bud 12 8916 (by omega) (by omega) ?_
  refine s_iconst (i := 81) rfl (v := (2 : Int32)) (by decide) ?_
  refine s_bud 12 8916 (by omega) (by omega) ?_
  refine s_bipush (i := 82) rfl (v := (101 : Int32)) (by decide) ?_
  refine s_bud 12 8916 (by omega) (by omega) ?_
  refine s_iastore (i := 83) rfl (fun h40 => ?_)
  refine s_bud 12 8916 (by omega) (by omega) ?_
  refine s_dup (i := 84) rfl rfl ?_
  refine s_bud 12 8916 (by omega) (by omega) ?_
  refine s_iconst (i := 85) rfl (v := (3 : Int32)) (by decide) ?_
  refine s_bud 12 8916 (by omega) (by omega) ?_
  refine s_bipush (i := 86) rfl (v := (110 : Int32)) (by decide) ?_
  refine s_bud 12 8916 (by omega) (by omega) ?_
  refine s_iastore (i := 87) rfl (fun h41 => ?_)
  refine s_bud 12 8916 (by omega) (by omega) ?_
  refine s_dup (i := 88) rfl rfl ?_
  refine s_bud 12 8916 (by omega) (by omega) ?_
  refine s_iconst (i := 89) rfl (v := (4 : Int32)) (by decide) ?_
  refine s_bud 12 8916 (by omega) (by omega) ?_
  refine s_bipush (i := 90) rfl (v := (115 : Int32)) (by decide) ?_
  refine s_bud 12 8916 (by omega) (by omega) ?_
  refine s_iastore (i := 91) rfl (fun h42 => ?_)
  refine s_bud 12 8916 (by omega) (by omega) ?_
  refine s_dup (i := 92) rfl rfl ?_
  refine s_bud 12 8916 (by omega) (by omega) ?_
  refine s_iconst (i := 93) rfl (v := (5 : Int32)) (by decide) ?_
  refine s_bud 12 8916 (by omega) (by omega) ?_
  refine s_bipush (i := 94) rfl (v := (32 : Int32)) (by decide) ?_
  refine s_bud 12 8916 (by omega) (by omega) ?_
  refine s_iastore (i := 95) rfl (fun h43 => ?_)
  refine s_bud 12 8916 (by omega) (by omega) ?_
  refine s_dup (i := 96) rfl rfl ?_
  refine s_bud 12 8916 (by omega) (by omega) ?_
  refine s_bipush (i := 97) rfl (v := (6 : Int32)) (by decide) ?_
  refine s_bud 12 8916 (by omega) (by omega) ?_
  refine s_bipush (i := 98) rfl (v := (114 : Int32)) (by decide) ?_
  refine s_bud 12 8916 (by omega) (by omega) ?_
  refine s_iastore (i := 99) rfl (fun h44 => ?_)
  refine s_bud 12 8916 (by omega) (by omega) ?_
  refine s_dup (i := 100) rfl rfl ?_
  refine s_bud 12 8916 (by omega) (by omega) ?_
  refine s_bipush (i := 101) rfl (v := (7 : Int32)) (by decide) ?_
  refine s_bud 12 8916 (by omega) (by omega) ?_
  refine s_bipush (i := 102) rfl (v := (101 : Int32)) (by decide) ?_
  refine s_bud 12 8916 (by omega) (by omega) ?_
  refine s_iastore (i := 103) rfl (fun h45 => ?_)
  refine s_bud 12 8916 (by omega) (by omega) ?_
  refine s_dup (i := 104) rfl rfl ?_
  refine s_bud 12 8916 (by omega) (by omega) ?_
  refine s_bipush (i := 105) rfl (v := (8 : Int32)) (by decide) ?_
  refine s_bud 12 8916 (by omega) (by omega) ?_
  refine s_bipush (i := 106) rfl (v := (115 : Int32)) (by decide) ?_
  refine s_bud 12 8916 (by omega) (by omega) ?_
  refine s_iastore (i := 107) rfl (fun h46 => ?_)
  refine s_bud 12 8916 (by omega) (by omega) ?_
  refine s_dup (i := 108) rfl rfl ?_
  refine s_bud 12 8916 (by omega) (by omega) ?_
  refine s_bipush (i := 109) rfl (v := (9 : Int32)) (by decide) ?_
  refine s_bud 12 8916 (by omega) (by omega) ?_
  refine s_bipush (i := 110) rfl (v := (116 : Int32)) (by decide) ?_
  refine s_bud 12 8916 (by omega) (by omega) ?_
  refine s_iastore (i := 111) rfl (fun h47 => ?_)
  refine s_bud 12 8916 (by omega) (by omega) ?_
  refine s_dup (i := 112) rfl rfl ?_
  refine s_bud 12 8916 (by omega) (by omega) ?_
  refine s_bipush (i := 113) rfl (v := (10 : Int32)) (by decide) ?_
  refine s_bud 12 8916 (by omega) (by omega) ?_
  refine s_bipush (i := 114) rfl (v := (32 : Int32)) (by decide) ?_
  refine s_bud 12 8916 (by omega) (by omega) ?_
  refine s_iastore (i := 115) rfl (fun h48 => ?_)
  refine s_bud 12 8916 (by omega) (by omega) ?_
  refine s_dup (i := 116) rfl rfl ?_
  refine s_bud 12 8916 (by omega) (by omega) ?_
  refine s_bipush (i := 117) rfl (v := (11 : Int32)) (by decide) ?_
  refine s_bud 12 8916 (by omega) (by omega) ?_
  refine s_bipush (i := 118) rfl (v := (61 : Int32)) (by decide) ?_
  refine s_bud 12 8916 (by omega) (by omega) ?_
  refine s_iastore (i := 119) rfl (fun h49 => ?_)
  refine s_bud 12 8916 (by omega) (by omega) ?_
  refine s_dup (i := 120) rfl rfl ?_
  refine s_bud 12 8916 (by omega) (by omega) ?_
  refine s_bipush (i := 121) rfl (v := (12 : Int32)) (by decide) ?_
  refine s_bud 12 8916 (by omega) (by omega) ?_
  refine s_bipush (i := 122) rfl (v := (32 : Int32)) (by decide) ?_
  refine s_bud 12 8916 (by omega) (by omega) ?_
  refine s_iastore (i := 123) rfl (fun h50 => ?_)
  refine s_bud 12 8916 (by omega) (by omega) ?_
  refine s_dup (i := 124) rfl rfl ?_
  refine s_bud 12 8916 (by omega) (by omega) ?_
  refine s_bipush (i := 125) rfl (v := (13 : Int32)) (by decide) ?_
  refine s_bud 12 8916 (by omega) (by omega) ?_
  refine s_bipush (i := 126) rfl (v := (48 : Int32)) (by decide) ?_
  refine s_bud 12 8916 (by omega) (by omega) ?_
  refine s_iastore (i := 127) rfl (fun h51 => ?_)
  refine s_bud 12 8916 (by omega) (by omega) ?_
  refine s_dup (i := 128) rfl rfl ?_
  refine s_bud 12 8916 (by omega) (by omega) ?_
  refine s_bipush (i := 129) rfl (v := (14 : Int32)) (by decide) ?_
  refine s_bud 12 8916 (by omega) (by omega) ?_
  refine s_bipush (i := 130) rfl (v := (32 : Int32)) (by decide) ?_
  refine s_bud 12 8916 (by omega) (by omega) ?_
  refine s_iastore (i := 131) rfl (fun h52 => ?_)
  refine s_bud 12 8916 (by omega) (by omega) ?_
  refine s_dup (i := 132) rfl rfl ?_
  refine s_bud 12 8916 (by omega) (by omega) ?_
  refine s_bipush (i := 133) rfl (v := (15 : Int32)) (by decide) ?_
  refine s_bud 12 8916 (by omega) (by omega) ?_
  refine s_bipush (i := 134) rfl (v := (59 : Int32)) (by decide) ?_
  refine s_bud 12 8916 (by omega) (by omega) ?_
  refine s_iastore (i := 135) rfl (fun h53 => ?_)
  refine s_bud 12 8916 (by omega) (by omega) ?_
  refine s_dup (i := 136) rfl rfl ?_
  refine s_bud 12 8916 (by omega) (by omega) ?_
  refine s_bipush (i := 137) rfl (v := (16 : Int32)) (by decide) ?_
  refine s_bud 12 8916 (by omega) (by omega) ?_
  refine s_bipush (i := 138) rfl (v := (32 : Int32)) (by decide) ?_
  refine s_bud 12 8916 (by omega) (by omega) ?_
  refine s_iastore (i := 139) rfl (fun h54 => ?_)
  refine s_bud 12 8916 (by omega) (by omega) ?_
  refine s_dup (i := 140) rfl rfl ?_
  refine s_bud 12 8916 (by omega) (by omega) ?_
  refine s_bipush (i := 141) rfl (v := (17 : Int32)) (by decide) ?_
  refine s_bud 12 8916 (by omega) (by omega) ?_
  refine s_bipush (i := 142) rfl (v := (119 : Int32)) (by decide) ?_
  refine s_bud 12 8916 (by omega) (by omega) ?_
  refine s_iastore (i := 143) rfl (fun h55 => ?_)
  refine s_bud 12 8916 (by omega) (by omega) ?_
  refine s_dup (i := 144) rfl rfl ?_
  refine s_bud 12 8916 (by omega) (by omega) ?_
  refine s_bipush (i := 145) rfl (v := (18 : Int32)) (by decide) ?_
  refine s_bud 12 8916 (by omega) (by omega) ?_
  refine s_bipush (i := 146) rfl (v := (111 : Int32)) (by decide) ?_
  refine s_bud 12 8916 (by omega) (by omega) ?_
  refine s_iastore (i := 147) rfl (fun h56 => ?_)
  refine s_bud 12 8916 (by omega) (by omega) ?_
  refine s_dup (i := 148) rfl rfl ?_
  refine s_bud 12 8916 (by omega) (by omega) ?_
  refine s_bipush (i := 149) rfl (v := (19 : Int32)) (by decide) ?_
  refine s_bud 12 8916 (by omega) (by omega) ?_
  refine s_bipush (i := 150) rfl (v := (114 : Int32)) (by decide) ?_
  refine s_bud 12 8916 (by omega) (by omega) ?_
  refine s_iastore (i := 151) rfl (fun h57 => ?_)
  refine s_bud 12 8916 (by omega) (by omega) ?_
  refine s_dup (i := 152) rfl rfl ?_
  refine s_bud 12 8916 (by omega) (by omega) ?_
  refine s_bipush (i := 153) rfl (v := (20 : Int32)) (by decide) ?_
  refine s_bud 12 8916 (by omega) (by omega) ?_
  refine s_bipush (i := 154) rfl (v := (116 : Int32)) (by decide) ?_
  refine s_bud 12 8916 (by omega) (by omega) ?_
  refine s_iastore (i := 155) rfl (fun h58 => ?_)
  refine s_bud 12 8916 (by omega) (by omega) ?_
  refine s_dup (i := 156) rfl rfl ?_
  refine s_bud 12 8916 (by omega) (by omega) ?_
  refine s_bipush (i := 157) rfl (v := (21 : Int32)) (by decide) ?_
  refine s_bud 12 8916 (by omega) (by omega) ?_
  refine s_bipush (i := 158) rfl (v := (104 : Int32)) (by decide) ?_
  refine s_bud 12 8916 (by omega) (by omega) ?_
  refine s_iastore (i := 159) rfl (fun h59 => ?_)
  refine s_bud 12 8916 (by omega) (by omega) ?_
  refine s_dup (i := 160) rfl rfl ?_
  refine s_bud 12 8916 (by omega) (by omega) ?_
  refine s_bipush (i := 161) rfl (v := (22 : Int32)) (by decide) ?_
  refine s_bud 12 8916 (by omega) (by omega) ?_
  refine s_bipush (i := 162) rfl (v := (32 : Int32)) (by decide) ?_
  refine s_bud 12 8916 (by omega) (by omega) ?_
  refine s_iastore (i := 163) rfl (fun h60 => ?_)
  refine s_bud 12 8916 (by omega) (by omega) ?_
  refine s_dup (i := 164) rfl rfl ?_
  refine s_bud 12 8916 (by omega) (by omega) ?_
  refine s_bipush (i := 165) rfl (v := (23 : Int32)) (by decide) ?_
  refine s_bud 12 8916 (by omega) (by omega) ?_
  refine s_bipush (i := 166) rfl (v := (50 : Int32)) (by decide) ?_
  refine s_bud 12 8916 (by omega) (by omega) ?_
  refine s_iastore (i := 167) rfl (fun h61 => ?_)
  refine s_bud 12 8916 (by omega) (by omega) ?_
  refine s_dup (i := 168) rfl rfl ?_
  refine s_bud 12 8916 (by omega) (by omega) ?_
  refine s_bipush (i := 169) rfl (v := (24 : Int32)) (by decide) ?_
  refine s_bud 12 8916 (by omega) (by omega) ?_
  refine s_bipush (i := 170) rfl (v := (48 : Int32)) (by decide) ?_
  refine s_bud 12 8916 (by omega) (by omega) ?_
  refine s_iastore (i := 171) rfl (fun h62 => ?_)
  refine s_bud 12 8916 (by omega) (by omega) ?_
  refine s_dup (i := 172) rfl rfl ?_
  refine s_bud 12 8916 (by omega) (by omega) ?_
  refine s_bipush (i := 173) rfl (v := (25 : Int32)) (by decide) ?_
  refine s_bud 12 8916 (by omega) (by omega) ?_
  refine s_bipush (i := 174) rfl (v := (32 : Int32)) (by decide) ?_
  refine s_bud 12 8916 (by omega) (by omega) ?_
  refine s_iastore (i := 175) rfl (fun h63 => ?_)
  refine s_bud 12 8916 (by omega) (by omega) ?_
  refine s_dup (i := 176) rfl rfl ?_
  refine s_bud 12 8916 (by omega) (by omega) ?_
  refine s_bipush (i := 177) rfl (v := (26 : Int32)) (by decide) ?_
  refine s_bud 12 8916 (by omega) (by omega) ?_
  refine s_bipush (i := 178) rfl (v := (59 : Int32)) (by decide) ?_
  refine s_bud 12 8916 (by omega) (by omega) ?_
  refine s_iastore (i := 179) rfl (fun h64 => ?_)
  refine s_bud 12 8916 (by omega) (by omega) ?_
  refine s_dup (i := 180) rfl rfl ?_
  refine s_bud 12 8916 (by omega) (by omega) ?_
  refine s_bipush (i := 181) rfl (v := (27 : Int32)) (by decide) ?_
  refine s_bud 12 8916 (by omega) (by omega) ?_
  refine s_bipush (i := 182) rfl (v := (32 : Int32)) (by decide) ?_
  refine s_bud 12 8916 (by omega) (by omega) ?_
  refine s_iastore (i := 183) rfl (fun h65 => ?_)
  refine s_bud 12 8916 (by omega) (by omega) ?_
  refine s_dup (i := 184) rfl rfl ?_
  refine s_bud 12 8916 (by omega) (by omega) ?_
  refine s_bipush (i := 185) rfl (v := (28 : Int32)) (by decide) ?_
  refine s_bud 12 8916 (by omega) (by omega) ?_
  refine s_bipush (i := 186) rfl (v := (104 : Int32)) (by decide) ?_
  refine s_bud 12 8916 (by omega) (by omega) ?_
  refine s_iastore (i := 187) rfl (fun h66 => ?_)
  refine s_bud 12 8916 (by omega) (by omega) ?_
  refine s_dup (i := 188) rfl rfl ?_
  refine s_bud 12 8916 (by omega) (by omega) ?_
  refine s_bipush (i := 189) rfl (v := (29 : Int32)) (by decide) ?_
  refine s_bud 12 8916 (by omega) (by omega) ?_
  refine s_bipush (i := 190) rfl (v := (97 : Int32)) (by decide) ?_
  refine s_bud 12 8916 (by omega) (by omega) ?_
  refine s_iastore (i := 191) rfl (fun h67 => ?_)
  refine s_bud 12 8916 (by omega) (by omega) ?_
  refine s_dup (i := 192) rfl rfl ?_
  refine s_bud 12 8916 (by omega) (by omega) ?_
  refine s_bipush (i := 193) rfl (v := (30 : Int32)) (by decide) ?_
  refine s_bud 12 8916 (by omega) (by omega) ?_
  refine s_bipush (i := 194) rfl (v := (115 : Int32)) (by decide) ?_
  refine s_bud 12 8916 (by omega) (by omega) ?_
  refine s_iastore (i := 195) rfl (fun h68 => ?_)
  refine s_bud 12 8916 (by omega) (by omega) ?_
  refine s_dup (i := 196) rfl rfl ?_
  refine s_bud 12 8916 (by omega) (by omega) ?_
  refine s_bipush (i := 197) rfl (v := (31 : Int32)) (by decide) ?_
  refine s_bud 12 8916 (by omega) (by omega) ?_
  refine s_bipush (i := 198) rfl (v := (116 : Int32)) (by decide) ?_
  refine s_bud 12 8916 (by omega) (by omega) ?_
  refine s_iastore (i := 199) rfl (fun h69 => ?_)
  refine s_bud 12 8916 (by omega) (by omega) ?_
  refine s_dup (i := 200) rfl rfl ?_
  refine s_bud 12 8916 (by omega) (by omega) ?_
  refine s_bipush (i := 201) rfl (v := (32 : Int32)) (by decide) ?_
  refine s_bud 12 8916 (by omega) (by omega) ?_
  refine s_bipush (i := 202) rfl (v := (101 : Int32)) (by decide) ?_
  refine s_bud 12 8916 (by omega) (by omega) ?_
  refine s_iastore (i := 203) rfl (fun h70 => ?_)
  refine s_bud 12 8916 (by omega) (by omega) ?_
  refine s_dup (i := 204) rfl rfl ?_
  refine s_bud 12 8916 (by omega) (by omega) ?_
  refine s_bipush (i := 205) rfl (v := (33 : Int32)) (by decide) ?_
  refine s_bud 12 8916 (by omega) (by omega) ?_
  refine s_bipush (i := 206) rfl (v := (32 : Int32)) (by decide) ?_
  refine s_bud 12 8916 (by omega) (by omega) ?_
  refine s_iastore (i := 207) rfl (fun h71 => ?_)
  refine s_bud 12 8916 (by omega) (by omega) ?_
  refine s_dup (i := 208) rfl rfl ?_
  refine s_bud 12 8916 (by omega) (by omega) ?_
  refine s_bipush (i := 209) rfl (v := (34 : Int32)) (by decide) ?_
  refine s_bud 12 8916 (by omega) (by omega) ?_
  refine s_bipush (i := 210) rfl (v := (109 : Int32)) (by decide) ?_
  refine s_bud 12 8916 (by omega) (by omega) ?_
  refine s_iastore (i := 211) rfl (fun h72 => ?_)
  refine s_bud 12 8916 (by omega) (by omega) ?_
  refine s_dup (i := 212) rfl rfl ?_
  refine s_bud 12 8916 (by omega) (by omega) ?_
  refine s_bipush (i := 213) rfl (v := (35 : Int32)) (by decide) ?_
  refine s_bud 12 8916 (by omega) (by omega) ?_
  refine s_bipush (i := 214) rfl (v := (105 : Int32)) (by decide) ?_
  refine s_bud 12 8916 (by omega) (by omega) ?_
  refine s_iastore (i := 215) rfl (fun h73 => ?_)
  refine s_bud 12 8916 (by omega) (by omega) ?_
  refine s_dup (i := 216) rfl rfl ?_
  refine s_bud 12 8916 (by omega) (by omega) ?_
  refine s_bipush (i := 217) rfl (v := (36 : Int32)) (by decide) ?_
  refine s_bud 12 8916 (by omega) (by omega) ?_
  refine s_bipush (i := 218) rfl (v := (110 : Int32)) (by decide) ?_
  refine s_bud 12 8916 (by omega) (by omega) ?_
  refine s_iastore (i := 219) rfl (fun h74 => ?_)
  refine s_bud 12 8916 (by omega) (by omega) ?_
  refine s_dup (i := 220) rfl rfl ?_
  refine s_bud 12 8916 (by omega) (by omega) ?_
  refine s_bipush (i := 221) rfl (v := (37 : Int32)) (by decide) ?_
  refine s_bud 12 8916 (by omega) (by omega) ?_
  refine s_bipush (i := 222) rfl (v := (117 : Int32)) (by decide) ?_
  refine s_bud 12 8916 (by omega) (by omega) ?_
  refine s_iastore (i := 223) rfl (fun h75 => ?_)
  refine s_bud 12 8916 (by omega) (by omega) ?_
  refine s_dup (i := 224) rfl rfl ?_
  refine s_bud 12 8916 (by omega) (by omega) ?_
  refine s_bipush (i := 225) rfl (v := (38 : Int32)) (by decide) ?_
  refine s_bud 12 8916 (by omega) (by omega) ?_
  refine s_bipush (i := 226) rfl (v := (116 : Int32)) (by decide) ?_
  refine s_bud 12 8916 (by omega) (by omega) ?_
  refine s_iastore (i := 227) rfl (fun h76 => ?_)
  refine s_bud 12 8916 (by omega) (by omega) ?_
  refine s_dup (i := 228) rfl rfl ?_
  refine s_bud 12 8916 (by omega) (by omega) ?_
  refine s_bipush (i := 229) rfl (v := (39 : Int32)) (by decide) ?_
  refine s_bud 12 8916 (by omega) (by omega) ?_
  refine s_bipush (i := 230) rfl (v := (101 : Int32)) (by decide) ?_
  refine s_bud 12 8916 (by omega) (by omega) ?_
  refine s_iastore (i := 231) rfl (fun h77 => ?_)
  refine s_bud 12 8916 (by omega) (by omega) ?_
  refine s_dup (i := 232) rfl rfl ?_
  refine s_bud 12 8916 (by omega) (by omega) ?_
  refine s_bipush (i := 233) rfl (v := (40 : Int32)) (by decide) ?_
  refine s_bud 12 8916 (by omega) (by omega) ?_
  refine s_bipush (i := 234) rfl (v := (32 : Int32)) (by decide) ?_
  refine s_bud 12 8916 (by omega) (by omega) ?_
  refine s_iastore (i := 235) rfl (fun h78 => ?_)
  refine s_bud 12 8916 (by omega) (by omega) ?_
  refine s_dup (i := 236) rfl rfl ?_
  refine s_bud 12 8916 (by omega) (by omega) ?_
  refine s_bipush (i := 237) rfl (v := (41 : Int32)) (by decide) ?_
  refine s_bud 12 8916 (by omega) (by omega) ?_
  refine s_bipush (i := 238) rfl (v := (59 : Int32)) (by decide) ?_
  refine s_bud 12 8916 (by omega) (by omega) ?_
  refine s_iastore (i := 239) rfl (fun h79 => ?_)
  refine s_bud 12 8916 (by omega) (by omega) ?_
  refine s_putR (i := 240) rfl xf_9_50 (fun _ => rfl) rfl (Or.inr ⟨_, rfl⟩) (fun h80 => ?_)
  refine s_bud 12 8916 (by omega) (by omega) ?_
  refine s_aload_n (i := 241) rfl 0 rfl ?_
  refine s_bud 12 8916 (by omega) (by omega) ?_
  refine s_bipush (i := 242) rfl (v := (96 : Int32)) (by decide) ?_
  refine s_bud 12 8916 (by omega) (by omega) ?_
  refine s_bud (1 + 11) (96 + 8820) (by omega) (by omega) ?_
  refine s_newarr (i := 243) rfl (lim := 96) (Or.inl ⟨rfl, rfl⟩) (by decide) (tw158) (fun h81 => ?_)
  refine s_bud 11 8820 (by omega) (by omega) ?_
  refine s_dup (i := 244) rfl rfl ?_
  refine s_bud 11 8820 (by omega) (by omega) ?_
  refine s_iconst (i := 245) rfl (v := (0 : Int32)) (by decide) ?_
  refine s_bud 11 8820 (by omega) (by omega) ?_
  refine s_bipush (i := 246) rfl (v := (111 : Int32)) (by decide) ?_
  refine s_bud 11 8820 (by omega) (by omega) ?_
  refine s_iastore (i := 247) rfl (fun h82 => ?_)
  refine s_bud 11 8820 (by omega) (by omega) ?_
  refine s_dup (i := 248) rfl rfl ?_
  refine s_bud 11 8820 (by omega) (by omega) ?_
  refine s_iconst (i := 249) rfl (v := (1 : Int32)) (by decide) ?_
  refine s_bud 11 8820 (by omega) (by omega) ?_
  refine s_bipush (i := 250) rfl (v := (112 : Int32)) (by decide) ?_
  refine s_bud 11 8820 (by omega) (by omega) ?_
  refine s_iastore (i := 251) rfl (fun h83 => ?_)
  refine s_bud 11 8820 (by omega) (by omega) ?_
  refine s_dup (i := 252) rfl rfl ?_
  refine s_bud 11 8820 (by omega) (by omega) ?_
  refine s_iconst (i := 253) rfl (v := (2 : Int32)) (by decide) ?_
  refine s_bud 11 8820 (by omega) (by omega) ?_
  refine s_bipush (i := 254) rfl (v := (101 : Int32)) (by decide) ?_
  refine s_bud 11 8820 (by omega) (by omega) ?_
  refine s_iastore (i := 255) rfl (fun h84 => ?_)
  refine s_bud 11 8820 (by omega) (by omega) ?_
  refine s_dup (i := 256) rfl rfl ?_
  refine s_bud 11 8820 (by omega) (by omega) ?_
  refine s_iconst (i := 257) rfl (v := (3 : Int32)) (by decide) ?_
  refine s_bud 11 8820 (by omega) (by omega) ?_
  refine s_bipush (i := 258) rfl (v := (110 : Int32)) (by decide) ?_
  refine s_bud 11 8820 (by omega) (by omega) ?_
  refine s_iastore (i := 259) rfl (fun h85 => ?_)
  refine s_bud 11 8820 (by omega) (by omega) ?_
  refine s_dup (i := 260) rfl rfl ?_
  refine s_bud 11 8820 (by omega) (by omega) ?_
  refine s_iconst (i := 261) rfl (v := (4 : Int32)) (by decide) ?_
  refine s_bud 11 8820 (by omega) (by omega) ?_
  refine s_bipush (i := 262) rfl (v := (115 : Int32)) (by decide) ?_
  refine s_bud 11 8820 (by omega) (by omega) ?_
  refine s_iastore (i := 263) rfl (fun h86 => ?_)
  refine s_bud 11 8820 (by omega) (by omega) ?_
  refine s_dup (i := 264) rfl rfl ?_
  refine s_bud 11 8820 (by omega) (by omega) ?_
  refine s_iconst (i := 265) rfl (v := (5 : Int32)) (by decide) ?_
  refine s_bud 11 8820 (by omega) (by omega) ?_
  refine s_bipush (i := 266) rfl (v := (32 : Int32)) (by decide) ?_
  refine s_bud 11 8820 (by omega) (by omega) ?_
  refine s_iastore (i := 267) rfl (fun h87 => ?_)
  refine s_bud 11 8820 (by omega) (by omega) ?_
  refine s_dup (i := 268) rfl rfl ?_
  refine s_bud 11 8820 (by omega) (by omega) ?_
  refine s_bipush (i := 269) rfl (v := (6 : Int32)) (by decide) ?_
  refine s_bud 11 8820 (by omega) (by omega) ?_
  refine s_bipush (i := 270) rfl (v := (32 : Int32)) (by decide) ?_
  refine s_bud 11 8820 (by omega) (by omega) ?_
  refine s_iastore (i := 271) rfl (fun h88 => ?_)
  refine s_bud 11 8820 (by omega) (by omega) ?_
  refine s_dup (i := 272) rfl rfl ?_
  refine s_bud 11 8820 (by omega) (by omega) ?_
  refine s_bipush (i := 273) rfl (v := (7 : Int32)) (by decide) ?_
  refine s_bud 11 8820 (by omega) (by omega) ?_
  refine s_bipush (i := 274) rfl (v := (32 : Int32)) (by decide) ?_
  refine s_bud 11 8820 (by omega) (by omega) ?_
  refine s_iastore (i := 275) rfl (fun h89 => ?_)
  refine s_bud 11 8820 (by omega) (by omega) ?_
  refine s_dup (i := 276) rfl rfl ?_
  refine s_bud 11 8820 (by omega) (by omega) ?_
  refine s_bipush (i := 277) rfl (v := (8 : Int32)) (by decide) ?_
  refine s_bud 11 8820 (by omega) (by omega) ?_
  refine s_bipush (i := 278) rfl (v := (119 : Int32)) (by decide) ?_
  refine s_bud 11 8820 (by omega) (by omega) ?_
  refine s_iastore (i := 279) rfl (fun h90 => ?_)
  refine s_bud 11 8820 (by omega) (by omega) ?_
  refine s_dup (i := 280) rfl rfl ?_
  refine s_bud 11 8820 (by omega) (by omega) ?_
  refine s_bipush (i := 281) rfl (v := (9 : Int32)) (by decide) ?_
  refine s_bud 11 8820 (by omega) (by omega) ?_
  refine s_bipush (i := 282) rfl (v := (111 : Int32)) (by decide) ?_
  refine s_bud 11 8820 (by omega) (by omega) ?_
  refine s_iastore (i := 283) rfl (fun h91 => ?_)
  refine s_bud 11 8820 (by omega) (by omega) ?_
  refine s_dup (i := 284) rfl rfl ?_
  refine s_bud 11 8820 (by omega) (by omega) ?_
  refine s_bipush (i := 285) rfl (v := (10 : Int32)) (by decide) ?_
  refine s_bud 11 8820 (by omega) (by omega) ?_
  refine s_bipush (i := 286) rfl (v := (114 : Int32)) (by decide) ?_
  refine s_bud 11 8820 (by omega) (by omega) ?_
  refine s_iastore (i := 287) rfl (fun h92 => ?_)
  refine s_bud 11 8820 (by omega) (by omega) ?_
  refine s_dup (i := 288) rfl rfl ?_
  refine s_bud 11 8820 (by omega) (by omega) ?_
  refine s_bipush (i := 289) rfl (v := (11 : Int32)) (by decide) ?_
  refine s_bud 11 8820 (by omega) (by omega) ?_
  refine s_bipush (i := 290) rfl (v := (116 : Int32)) (by decide) ?_
  refine s_bud 11 8820 (by omega) (by omega) ?_
  refine s_iastore (i := 291) rfl (fun h93 => ?_)
  refine s_bud 11 8820 (by omega) (by omega) ?_
  refine s_dup (i := 292) rfl rfl ?_
  refine s_bud 11 8820 (by omega) (by omega) ?_
  refine s_bipush (i := 293) rfl (v := (12 : Int32)) (by decide) ?_
  refine s_bud 11 8820 (by omega) (by omega) ?_
  refine s_bipush (i := 294) rfl (v := (104 : Int32)) (by decide) ?_
  refine s_bud 11 8820 (by omega) (by omega) ?_
  refine s_iastore (i := 295) rfl (fun h94 => ?_)
  refine s_bud 11 8820 (by omega) (by omega) ?_
  refine s_dup (i := 296) rfl rfl ?_
  refine s_bud 11 8820 (by omega) (by omega) ?_
  refine s_bipush (i := 297) rfl (v := (13 : Int32)) (by decide) ?_
  refine s_bud 11 8820 (by omega) (by omega) ?_
  refine s_bipush (i := 298) rfl (v := (32 : Int32)) (by decide) ?_
  refine s_bud 11 8820 (by omega) (by omega) ?_
  refine s_iastore (i := 299) rfl (fun h95 => ?_)
  refine s_bud 11 8820 (by omega) (by omega) ?_
  refine s_dup (i := 300) rfl rfl ?_
  refine s_bud 11 8820 (by omega) (by omega) ?_
  refine s_bipush (i := 301) rfl (v := (14 : Int32)) (by decide) ?_
  refine s_bud 11 8820 (by omega) (by omega) ?_
  refine s_bipush (i := 302) rfl (v := (32 : Int32)) (by decide) ?_
  refine s_bud 11 8820 (by omega) (by omega) ?_
  refine s_iastore (i := 303) rfl (fun h96 => ?_)
  refine s_bud 11 8820 (by omega) (by omega) ?_
  refine s_dup (i := 304) rfl rfl ?_
  refine s_bud 11 8820 (by omega) (by omega) ?_
  refine s_bipush (i := 305) rfl (v := (15 : Int32)) (by decide) ?_
  refine s_bud 11 8820 (by omega) (by omega) ?_
  refine s_bipush (i := 306) rfl (v := (32 : Int32)) (by decide) ?_
  refine s_bud 11 8820 (by omega) (by omega) ?_
  refine s_iastore (i := 307) rfl (fun h97 => ?_)
  refine s_bud 11 8820 (by omega) (by omega) ?_
  refine s_dup (i := 308) rfl rfl ?_
  refine s_bud 11 8820 (by omega) (by omega) ?_
  refine s_bipush (i := 309) rfl (v := (16 : Int32)) (by decide) ?_
  refine s_bud 11 8820 (by omega) (by omega) ?_
  refine s_bipush (i := 310) rfl (v := (104 : Int32)) (by decide) ?_
  refine s_bud 11 8820 (by omega) (by omega) ?_
  refine s_iastore (i := 311) rfl (fun h98 => ?_)
  refine s_bud 11 8820 (by omega) (by omega) ?_
  refine s_dup (i := 312) rfl rfl ?_
  refine s_bud 11 8820 (by omega) (by omega) ?_
  refine s_bipush (i := 313) rfl (v := (17 : Int32)) (by decide) ?_
  refine s_bud 11 8820 (by omega) (by omega) ?_
  refine s_bipush (i := 314) rfl (v := (97 : Int32)) (by decide) ?_
  refine s_bud 11 8820 (by omega) (by omega) ?_
  refine s_iastore (i := 315) rfl (fun h99 => ?_)
  refine s_bud 11 8820 (by omega) (by omega) ?_
  refine s_dup (i := 316) rfl rfl ?_
  refine s_bud 11 8820 (by omega) (by omega) ?_
  refine s_bipush (i := 317) rfl (v := (18 : Int32)) (by decide) ?_
  refine s_bud 11 8820 (by omega) (by omega) ?_
  refine s_bipush (i := 318) rfl (v := (115 : Int32)) (by decide) ?_
  refine s_bud 11 8820 (by omega) (by omega) ?_
  refine s_iastore (i := 319) rfl (fun h100 => ?_)
  refine s_bud 11 8820 (by omega) (by omega) ?_
  refine s_dup (i := 320) rfl rfl ?_
  refine s_bud 11 8820 (by omega) (by omega) ?_
  refine s_bipush (i := 321) rfl (v := (19 : Int32)) (by decide) ?_
  refine s_bud 11 8820 (by omega) (by omega) ?_
  refine s_bipush (i := 322) rfl (v := (116 : Int32)) (by decide) ?_
  refine s_bud 11 8820 (by omega) (by omega) ?_
  refine s_iastore (i := 323) rfl (fun h101 => ?_)
  refine s_bud 11 8820 (by omega) (by omega) ?_
  refine s_dup (i := 324) rfl rfl ?_
  refine s_bud 11 8820 (by omega) (by omega) ?_
  refine s_bipush (i := 325) rfl (v := (20 : Int32)) (by decide) ?_
  refine s_bud 11 8820 (by omega) (by omega) ?_
  refine s_bipush (i := 326) rfl (v := (101 : Int32)) (by decide) ?_
  refine s_bud 11 8820 (by omega) (by omega) ?_
  refine s_iastore (i := 327) rfl (fun h102 => ?_)
  refine s_bud 11 8820 (by omega) (by omega) ?_
  refine s_dup (i := 328) rfl rfl ?_
  refine s_bud 11 8820 (by omega) (by omega) ?_
  refine s_bipush (i := 329) rfl (v := (21 : Int32)) (by decide) ?_
  refine s_bud 11 8820 (by omega) (by omega) ?_
  refine s_bipush (i := 330) rfl (v := (32 : Int32)) (by decide) ?_
  refine s_bud 11 8820 (by omega) (by omega) ?_
  refine s_iastore (i := 331) rfl (fun h103 => ?_)
  refine s_bud 11 8820 (by omega) (by omega) ?_
  refine s_dup (i := 332) rfl rfl ?_
  refine s_bud 11 8820 (by omega) (by omega) ?_
  refine s_bipush (i := 333) rfl (v := (22 : Int32)) (by decide) ?_
  refine s_bud 11 8820 (by omega) (by omega) ?_
  refine s_bipush (i := 334) rfl (v := (32 : Int32)) (by decide) ?_
  refine s_bud 11 8820 (by omega) (by omega) ?_
  refine s_iastore (i := 335) rfl (fun h104 => ?_)
  refine s_bud 11 8820 (by omega) (by omega) ?_
  refine s_dup (i := 336) rfl rfl ?_
  refine s_bud 11 8820 (by omega) (by omega) ?_
  refine s_bipush (i := 337) rfl (v := (23 : Int32)) (by decide) ?_
  refine s_bud 11 8820 (by omega) (by omega) ?_
  refine s_bipush (i := 338) rfl (v := (32 : Int32)) (by decide) ?_
  refine s_bud 11 8820 (by omega) (by omega) ?_
  refine s_iastore (i := 339) rfl (fun h105 => ?_)
  refine s_bud 11 8820 (by omega) (by omega) ?_
  refine s_dup (i := 340) rfl rfl ?_
  refine s_bud 11 8820 (by omega) (by omega) ?_
  refine s_bipush (i := 341) rfl (v := (24 : Int32)) (by decide) ?_
  refine s_bud 11 8820 (by omega) (by omega) ?_
  refine s_bipush (i := 342) rfl (v := (115 : Int32)) (by decide) ?_
  refine s_bud 11 8820 (by omega) (by omega) ?_
  refine s_iastore (i := 343) rfl (fun h106 => ?_)
  refine s_bud 11 8820 (by omega) (by omega) ?_
  refine s_dup (i := 344) rfl rfl ?_
  refine s_bud 11 8820 (by omega) (by omega) ?_
  refine s_bipush (i := 345) rfl (v := (25 : Int32)) (by decide) ?_
  refine s_bud 11 8820 (by omega) (by omega) ?_
  refine s_bipush (i := 346) rfl (v := (117 : Int32)) (by decide) ?_
  refine s_bud 11 8820 (by omega) (by omega) ?_
  refine s_iastore (i := 347) rfl (fun h107 => ?_)
  refine s_bud 11 8820 (by omega) (by omega) ?_
  refine s_dup (i := 348) rfl rfl ?_
  refine s_bud 11 8820 (by omega) (by omega) ?_
  refine s_bipush (i := 349) rfl (v := (26 : Int32)) (by decide) ?_
  refine s_bud 11 8820 (by omega) (by omega) ?_
  refine s_bipush (i := 350) rfl (v := (109 : Int32)) (by decide) ?_
  refine s_bud 11 8820 (by omega) (by omega) ?_
  refine s_iastore (i := 351) rfl (fun h108 => ?_)
  refine s_bud 11 8820 (by omega) (by omega) ?_
  refine s_dup (i := 352) rfl rfl ?_
  refine s_bud 11 8820 (by omega) (by omega) ?_
  refine s_bipush (i := 353) rfl (v := (27 : Int32)) (by decide) ?_
  refine s_bud 11 8820 (by omega) (by omega) ?_
  refine s_bipush (i := 354) rfl (v := (32 : Int32)) (by decide) ?_
  refine s_bud 11 8820 (by omega) (by omega) ?_
  refine s_iastore (i := 355) rfl (fun h109 => ?_)
  refine s_bud 11 8820 (by omega) (by omega) ?_
  refine s_dup (i := 356) rfl rfl ?_
  refine s_bud 11 8820 (by omega) (by omega) ?_
  refine s_bipush (i := 357) rfl (v := (28 : Int32)) (by decide) ?_
  refine s_bud 11 8820 (by omega) (by omega) ?_
  refine s_bipush (i := 358) rfl (v := (32 : Int32)) (by decide) ?_
  refine s_bud 11 8820 (by omega) (by omega) ?_
  refine s_iastore (i := 359) rfl (fun h110 => ?_)
  refine s_bud 11 8820 (by omega) (by omega) ?_
  refine s_dup (i := 360) rfl rfl ?_
  refine s_bud 11 8820 (by omega) (by omega) ?_
  refine s_bipush (i := 361) rfl (v := (29 : Int32)) (by decide) ?_
  refine s_bud 11 8820 (by omega) (by omega) ?_
  refine s_bipush (i := 362) rfl (v := (32 : Int32)) (by decide) ?_
  refine s_bud 11 8820 (by omega) (by omega) ?_
  refine s_iastore (i := 363) rfl (fun h111 => ?_)
  refine s_bud 11 8820 (by omega) (by omega) ?_
  refine s_dup (i := 364) rfl rfl ?_
  refine s_bud 11 8820 (by omega) (by omega) ?_
  refine s_bipush (i := 365) rfl (v := (30 : Int32)) (by decide) ?_
  refine s_bud 11 8820 (by omega) (by omega) ?_
  refine s_bipush (i := 366) rfl (v := (32 : Int32)) (by decide) ?_
  refine s_bud 11 8820 (by omega) (by omega) ?_
  refine s_iastore (i := 367) rfl (fun h112 => ?_)
  refine s_bud 11 8820 (by omega) (by omega) ?_
  refine s_dup (i := 368) rfl rfl ?_
  refine s_bud 11 8820 (by omega) (by omega) ?_
  refine s_bipush (i := 369) rfl (v := (31 : Int32)) (by decide) ?_
  refine s_bud 11 8820 (by omega) (by omega) ?_
  refine s_bipush (i := 370) rfl (v := (32 : Int32)) (by decide) ?_
  refine s_bud 11 8820 (by omega) (by omega) ?_
  refine s_iastore (i := 371) rfl (fun h113 => ?_)
  refine s_bud 11 8820 (by omega) (by omega) ?_
  refine s_dup (i := 372) rfl rfl ?_
  refine s_bud 11 8820 (by omega) (by omega) ?_
  refine s_bipush (i := 373) rfl (v := (32 : Int32)) (by decide) ?_
  refine s_bud 11 8820 (by omega) (by omega) ?_
  refine s_bipush (i := 374) rfl (v := (114 : Int32)) (by decide) ?_
  refine s_bud 11 8820 (by omega) (by omega) ?_
  refine s_iastore (i := 375) rfl (fun h114 => ?_)
  refine s_bud 11 8820 (by omega) (by omega) ?_
  refine s_dup (i := 376) rfl rfl ?_
  refine s_bud 11 8820 (by omega) (by omega) ?_
  refine s_bipush (i := 377) rfl (v := (33 : Int32)) (by decide) ?_
  refine s_bud 11 8820 (by omega) (by omega) ?_
  refine s_bipush (i := 378) rfl (v := (101 : Int32)) (by decide) ?_
  refine s_bud 11 8820 (by omega) (by omega) ?_
  refine s_iastore (i := 379) rfl (fun h115 => ?_)
  refine s_bud 11 8820 (by omega) (by omega) ?_
  refine s_dup (i := 380) rfl rfl ?_
  refine s_bud 11 8820 (by omega) (by omega) ?_
  refine s_bipush (i := 381) rfl (v := (34 : Int32)) (by decide) ?_
  refine s_bud 11 8820 (by omega) (by omega) ?_
  refine s_bipush (i := 382) rfl (v := (115 : Int32)) (by decide) ?_
  refine s_bud 11 8820 (by omega) (by omega) ?_
  refine s_iastore (i := 383) rfl (fun h116 => ?_)
  refine s_bud 11 8820 (by omega) (by omega) ?_
  refine s_dup (i := 384) rfl rfl ?_
  refine s_bud 11 8820 (by omega) (by omega) ?_
  refine s_bipush (i := 385) rfl (v := (35 : Int32)) (by decide) ?_
  refine s_bud 11 8820 (by omega) (by omega) ?_
  refine s_bipush (i := 386) rfl (v := (116 : Int32)) (by decide) ?_
  refine s_bud 11 8820 (by omega) (by omega) ?_
  refine s_iastore (i := 387) rfl (fun h117 => ?_)
  refine s_bud 11 8820 (by omega) (by omega) ?_
  refine s_dup (i := 388) rfl rfl ?_
  refine s_bud 11 8820 (by omega) (by omega) ?_
  refine s_bipush (i := 389) rfl (v := (36 : Int32)) (by decide) ?_
  refine s_bud 11 8820 (by omega) (by omega) ?_
  refine s_bipush (i := 390) rfl (v := (32 : Int32)) (by decide) ?_
  refine s_bud 11 8820 (by omega) (by omega) ?_
  refine s_iastore (i := 391) rfl (fun h118 => ?_)
  refine s_bud 11 8820 (by omega) (by omega) ?_
  refine s_dup (i := 392) rfl rfl ?_
  refine s_bud 11 8820 (by omega) (by omega) ?_
  refine s_bipush (i := 393) rfl (v := (37 : Int32)) (by decide) ?_
  refine s_bud 11 8820 (by omega) (by omega) ?_
  refine s_bipush (i := 394) rfl (v := (32 : Int32)) (by decide) ?_
  refine s_bud 11 8820 (by omega) (by omega) ?_
  refine s_iastore (i := 395) rfl (fun h119 => ?_)
  refine s_bud 11 8820 (by omega) (by omega) ?_
  refine s_dup (i := 396) rfl rfl ?_
  refine s_bud 11 8820 (by omega) (by omega) ?_
  refine s_bipush (i := 397) rfl (v := (38 : Int32)) (by decide) ?_
  refine s_bud 11 8820 (by omega) (by omega) ?_
  refine s_bipush (i := 398) rfl (v := (32 : Int32)) (by decide) ?_
  refine s_bud 11 8820 (by omega) (by omega) ?_
  refine s_iastore (i := 399) rfl (fun h120 => ?_)
  refine s_bud 11 8820 (by omega) (by omega) ?_
  refine s_dup (i := 400) rfl rfl ?_
  refine s_bud 11 8820 (by omega) (by omega) ?_
  refine s_bipush (i := 401) rfl (v := (39 : Int32)) (by decide) ?_
  refine s_bud 11 8820 (by omega) (by omega) ?_
  refine s_bipush (i := 402) rfl (v := (32 : Int32)) (by decide) ?_
  refine s_bud 11 8820 (by omega) (by omega) ?_
  refine s_iastore (i := 403) rfl (fun h121 => ?_)
  refine s_bud 11 8820 (by omega) (by omega) ?_
  refine s_dup (i := 404) rfl rfl ?_
  refine s_bud 11 8820 (by omega) (by omega) ?_
  refine s_bipush (i := 405) rfl (v := (40 : Int32)) (by decide) ?_
  refine s_bud 11 8820 (by omega) (by omega) ?_
  refine s_bipush (i := 406) rfl (v := (118 : Int32)) (by decide) ?_
  refine s_bud 11 8820 (by omega) (by omega) ?_
  refine s_iastore (i := 407) rfl (fun h122 => ?_)
  refine s_bud 11 8820 (by omega) (by omega) ?_
  refine s_dup (i := 408) rfl rfl ?_
  refine s_bud 11 8820 (by omega) (by omega) ?_
  refine s_bipush (i := 409) rfl (v := (41 : Int32)) (by decide) ?_
  refine s_bud 11 8820 (by omega) (by omega) ?_
  refine s_bipush (i := 410) rfl (v := (97 : Int32)) (by decide) ?_
  refine s_bud 11 8820 (by omega) (by omega) ?_
  refine s_iastore (i := 411) rfl (fun h123 => ?_)
  refine s_bud 11 8820 (by omega) (by omega) ?_
  refine s_dup (i := 412) rfl rfl ?_
  refine s_bud 11 8820 (by omega) (by omega) ?_
  refine s_bipush (i := 413) rfl (v := (42 : Int32)) (by decide) ?_
  refine s_bud 11 8820 (by omega) (by omega) ?_
  refine s_bipush (i := 414) rfl (v := (108 : Int32)) (by decide) ?_
  refine s_bud 11 8820 (by omega) (by omega) ?_
  refine s_iastore (i := 415) rfl (fun h124 => ?_)
  refine s_bud 11 8820 (by omega) (by omega) ?_
  refine s_dup (i := 416) rfl rfl ?_
  refine s_bud 11 8820 (by omega) (by omega) ?_
  refine s_bipush (i := 417) rfl (v := (43 : Int32)) (by decide) ?_
  refine s_bud 11 8820 (by omega) (by omega) ?_
  refine s_bipush (i := 418) rfl (v := (117 : Int32)) (by decide) ?_
  refine s_bud 11 8820 (by omega) (by omega) ?_
  refine s_iastore (i := 419) rfl (fun h125 => ?_)
  refine s_bud 11 8820 (by omega) (by omega) ?_
  refine s_dup (i := 420) rfl rfl ?_
  refine s_bud 11 8820 (by omega) (by omega) ?_
  refine s_bipush (i := 421) rfl (v := (44 : Int32)) (by decide) ?_
  refine s_bud 11 8820 (by omega) (by omega) ?_
  refine s_bipush (i := 422) rfl (v := (101 : Int32)) (by decide) ?_
  refine s_bud 11 8820 (by omega) (by omega) ?_
  refine s_iastore (i := 423) rfl (fun h126 => ?_)
  refine s_bud 11 8820 (by omega) (by omega) ?_
  refine s_dup (i := 424) rfl rfl ?_
  refine s_bud 11 8820 (by omega) (by omega) ?_
  refine s_bipush (i := 425) rfl (v := (45 : Int32)) (by decide) ?_
  refine s_bud 11 8820 (by omega) (by omega) ?_
  refine s_bipush (i := 426) rfl (v := (32 : Int32)) (by decide) ?_
  refine s_bud 11 8820 (by omega) (by omega) ?_
  refine s_iastore (i := 427) rfl (fun h127 => ?_)
  refine s_bud 11 8820 (by omega) (by omega) ?_
  refine s_dup (i := 428) rfl rfl ?_
  refine s_bud 11 8820 (by omega) (by omega) ?_
  refine s_bipush (i := 429) rfl (v := (46 : Int32)) (by decide) ?_
  refine s_bud 11 8820 (by omega) (by omega) ?_
  refine s_bipush (i := 430) rfl (v := (32 : Int32)) (by decide) ?_
  refine s_bud 11 8820 (by omega) (by omega) ?_
  refine s_iastore (i := 431) rfl (fun h128 => ?_)
  refine s_bud 11 8820 (by omega) (by omega) ?_
  refine s_dup (i := 432) rfl rfl ?_
  refine s_bud 11 8820 (by omega) (by omega) ?_
  refine s_bipush (i := 433) rfl (v := (47 : Int32)) (by decide) ?_
  refine s_bud 11 8820 (by omega) (by omega) ?_
  refine s_bipush (i := 434) rfl (v := (32 : Int32)) (by decide) ?_
  refine s_bud 11 8820 (by omega) (by omega) ?_
  refine s_iastore (i := 435) rfl (fun h129 => ?_)
  refine s_bud 11 8820 (by omega) (by omega) ?_
  refine s_dup (i := 436) rfl rfl ?_
  refine s_bud 11 8820 (by omega) (by omega) ?_
  refine s_bipush (i := 437) rfl (v := (48 : Int32)) (by decide) ?_
  refine s_bud 11 8820 (by omega) (by omega) ?_
  refine s_bipush (i := 438) rfl (v := (109 : Int32)) (by decide) ?_
  refine s_bud 11 8820 (by omega) (by omega) ?_
  refine s_iastore (i := 439) rfl (fun h130 => ?_)
  refine s_bud 11 8820 (by omega) (by omega) ?_
  refine s_dup (i := 440) rfl rfl ?_
  refine s_bud 11 8820 (by omega) (by omega) ?_
  refine s_bipush (i := 441) rfl (v := (49 : Int32)) (by decide) ?_
  refine s_bud 11 8820 (by omega) (by omega) ?_
  refine s_bipush (i := 442) rfl (v := (105 : Int32)) (by decide) ?_
  refine s_bud 11 8820 (by omega) (by omega) ?_
  refine s_iastore (i := 443) rfl (fun h131 => ?_)
  refine s_bud 11 8820 (by omega) (by omega) ?_
  refine s_dup (i := 444) rfl rfl ?_
  refine s_bud 11 8820 (by omega) (by omega) ?_
  refine s_bipush (i := 445) rfl (v := (50 : Int32)) (by decide) ?_
  refine s_bud 11 8820 (by omega) (by omega) ?_
  refine s_bipush (i := 446) rfl (v := (110 : Int32)) (by decide) ?_
  refine s_bud 11 8820 (by omega) (by omega) ?_
  refine s_iastore (i := 447) rfl (fun h132 => ?_)
  refine s_bud 11 8820 (by omega) (by omega) ?_
  refine s_dup (i := 448) rfl rfl ?_
  refine s_bud 11 8820 (by omega) (by omega) ?_
  refine s_bipush (i := 449) rfl (v := (51 : Int32)) (by decide) ?_
  refine s_bud 11 8820 (by omega) (by omega) ?_
  refine s_bipush (i := 450) rfl (v := (117 : Int32)) (by decide) ?_
  refine s_bud 11 8820 (by omega) (by omega) ?_
  refine s_iastore (i := 451) rfl (fun h133 => ?_)
  refine s_bud 11 8820 (by omega) (by omega) ?_
  refine s_dup (i := 452) rfl rfl ?_
  refine s_bud 11 8820 (by omega) (by omega) ?_
  refine s_bipush (i := 453) rfl (v := (52 : Int32)) (by decide) ?_
  refine s_bud 11 8820 (by omega) (by omega) ?_
  refine s_bipush (i := 454) rfl (v := (116 : Int32)) (by decide) ?_
  refine s_bud 11 8820 (by omega) (by omega) ?_
  refine s_iastore (i := 455) rfl (fun h134 => ?_)
  refine s_bud 11 8820 (by omega) (by omega) ?_
  refine s_dup (i := 456) rfl rfl ?_
  refine s_bud 11 8820 (by omega) (by omega) ?_
  refine s_bipush (i := 457) rfl (v := (53 : Int32)) (by decide) ?_
  refine s_bud 11 8820 (by omega) (by omega) ?_
  refine s_bipush (i := 458) rfl (v := (101 : Int32)) (by decide) ?_
  refine s_bud 11 8820 (by omega) (by omega) ?_
  refine s_iastore (i := 459) rfl (fun h135 => ?_)
  refine s_bud 11 8820 (by omega) (by omega) ?_
  refine s_dup (i := 460) rfl rfl ?_
  refine s_bud 11 8820 (by omega) (by omega) ?_
  refine s_bipush (i := 461) rfl (v := (54 : Int32)) (by decide) ?_
  refine s_bud 11 8820 (by omega) (by omega) ?_
  refine s_bipush (i := 462) rfl (v := (32 : Int32)) (by decide) ?_
  refine s_bud 11 8820 (by omega) (by omega) ?_
  refine s_iastore (i := 463) rfl (fun h136 => ?_)
  refine s_bud 11 8820 (by omega) (by omega) ?_
  refine s_dup (i := 464) rfl rfl ?_
  refine s_bud 11 8820 (by omega) (by omega) ?_
  refine s_bipush (i := 465) rfl (v := (55 : Int32)) (by decide) ?_
  refine s_bud 11 8820 (by omega) (by omega) ?_
  refine s_bipush (i := 466) rfl (v := (32 : Int32)) (by decide) ?_
  refine s_bud 11 8820 (by omega) (by omega) ?_
  refine s_iastore (i := 467) rfl (fun h137 => ?_)
  refine s_bud 11 8820 (by omega) (by omega) ?_
  refine s_dup (i := 468) rfl rfl ?_
  refine s_bud 11 8820 (by omega) (by omega) ?_
  refine s_bipush (i := 469) rfl (v := (56 : Int32)) (by decide) ?_
  refine s_bud 11 8820 (by omega) (by omega) ?_
  refine s_bipush (i := 470) rfl (v := (99 : Int32)) (by decide) ?_
  refine s_bud 11 8820 (by omega) (by omega) ?_
  refine s_iastore (i := 471) rfl (fun h138 => ?_)
  refine s_bud 11 8820 (by omega) (by omega) ?_
  refine s_dup (i := 472) rfl rfl ?_
  refine s_bud 11 8820 (by omega) (by omega) ?_
  refine s_bipush (i := 473) rfl (v := (57 : Int32)) (by decide) ?_
  refine s_bud 11 8820 (by omega) (by omega) ?_
  refine s_bipush (i := 474) rfl (v := (111 : Int32)) (by decide) ?_
  refine s_bud 11 8820 (by omega) (by omega) ?_
  refine s_iastore (i := 475) rfl (fun h139 => ?_)
  refine s_bud 11 8820 (by omega) (by omega) ?_
  refine s_dup (i := 476) rfl rfl ?_
  refine s_bud 11 8820 (by omega) (by omega) ?_
  refine s_bipush (i := 477) rfl (v := (58 : Int32)) (by decide) ?_
  refine s_bud 11 8820 (by omega) (by omega) ?_
  refine s_bipush (i := 478) rfl (v := (105 : Int32)) (by decide) ?_
  refine s_bud 11 8820 (by omega) (by omega) ?_
  refine s_iastore (i := 479) rfl (fun h140 => ?_)
  refine s_bud 11 8820 (by omega) (by omega) ?_
  refine s_dup (i := 480) rfl rfl ?_
  refine s_bud 11 8820 (by omega) (by omega) ?_
  refine s_bipush (i := 481) rfl (v := (59 : Int32)) (by decide) ?_
  refine s_bud 11 8820 (by omega) (by omega) ?_
  refine s_bipush (i := 482) rfl (v := (110 : Int32)) (by decide) ?_
  refine s_bud 11 8820 (by omega) (by omega) ?_
  refine s_iastore (i := 483) rfl (fun h141 => ?_)
  refine s_bud 11 8820 (by omega) (by omega) ?_
  refine s_dup (i := 484) rfl rfl ?_
  refine s_bud 11 8820 (by omega) (by omega) ?_
  refine s_bipush (i := 485) rfl (v := (60 : Int32)) (by decide) ?_
  refine s_bud 11 8820 (by omega) (by omega) ?_
  refine s_bipush (i := 486) rfl (v := (115 : Int32)) (by decide) ?_
  refine s_bud 11 8820 (by omega) (by omega) ?_
  refine s_iastore (i := 487) rfl (fun h142 => ?_)
  refine s_bud 11 8820 (by omega) (by omega) ?_
  refine s_dup (i := 488) rfl rfl ?_
  refine s_bud 11 8820 (by omega) (by omega) ?_
  refine s_bipush (i := 489) rfl (v := (61 : Int32)) (by decide) ?_
  refine s_bud 11 8820 (by omega) (by omega) ?_
  refine s_bipush (i := 490) rfl (v := (32 : Int32)) (by decide) ?_
  refine s_bud 11 8820 (by omega) (by omega) ?_
  refine s_iastore (i := 491) rfl (fun h143 => ?_)
  refine s_bud 11 8820 (by omega) (by omega) ?_
  refine s_dup (i := 492) rfl rfl ?_
  refine s_bud 11 8820 (by omega) (by omega) ?_
  refine s_bipush (i := 493) rfl (v := (62 : Int32)) (by decide) ?_
  refine s_bud 11 8820 (by omega) (by omega) ?_
  refine s_bipush (i := 494) rfl (v := (32 : Int32)) (by decide) ?_
  refine s_bud 11 8820 (by omega) (by omega) ?_
  refine s_iastore (i := 495) rfl (fun h144 => ?_)
  refine s_bud 11 8820 (by omega) (by omega) ?_
  refine s_dup (i := 496) rfl rfl ?_
  refine s_bud 11 8820 (by omega) (by omega) ?_
  refine s_bipush (i := 497) rfl (v := (63 : Int32)) (by decide) ?_
  refine s_bud 11 8820 (by omega) (by omega) ?_
  refine s_bipush (i := 498) rfl (v := (32 : Int32)) (by decide) ?_
  refine s_bud 11 8820 (by omega) (by omega) ?_
  refine s_iastore (i := 499) rfl (fun h145 => ?_)
  refine s_bud 11 8820 (by omega) (by omega) ?_
  refine s_dup (i := 500) rfl rfl ?_
  refine s_bud 11 8820 (by omega) (by omega) ?_
  refine s_bipush (i := 501) rfl (v := (64 : Int32)) (by decide) ?_
  refine s_bud 11 8820 (by omega) (by omega) ?_
  refine s_bipush (i := 502) rfl (v := (119 : Int32)) (by decide) ?_
  refine s_bud 11 8820 (by omega) (by omega) ?_
  refine s_iastore (i := 503) rfl (fun h146 => ?_)
  refine s_bud 11 8820 (by omega) (by omega) ?_
  refine s_dup (i := 504) rfl rfl ?_
  refine s_bud 11 8820 (by omega) (by omega) ?_
  refine s_bipush (i := 505) rfl (v := (65 : Int32)) (by decide) ?_
  refine s_bud 11 8820 (by omega) (by omega) ?_
  refine s_bipush (i := 506) rfl (v := (104 : Int32)) (by decide) ?_
  refine s_bud 11 8820 (by omega) (by omega) ?_
  refine s_iastore (i := 507) rfl (fun h147 => ?_)
  refine s_bud 11 8820 (by omega) (by omega) ?_
  refine s_dup (i := 508) rfl rfl ?_
  refine s_bud 11 8820 (by omega) (by omega) ?_
  refine s_bipush (i := 509) rfl (v := (66 : Int32)) (by decide) ?_
  refine s_bud 11 8820 (by omega) (by omega) ?_
  refine s_bipush (i := 510) rfl (v := (111 : Int32)) (by decide) ?_
  refine s_bud 11 8820 (by omega) (by omega) ?_
  refine s_iastore (i := 511) rfl (fun h148 => ?_)
  refine s_bud 11 8820 (by omega) (by omega) ?_
  refine s_dup (i := 512) rfl rfl ?_
  refine s_bud 11 8820 (by omega) (by omega) ?_
  refine s_bipush (i := 513) rfl (v := (67 : Int32)) (by decide) ?_
  refine s_bud 11 8820 (by omega) (by omega) ?_
  refine s_bipush (i := 514) rfl (v := (32 : Int32)) (by decide) ?_
  refine s_bud 11 8820 (by omega) (by omega) ?_
  refine s_iastore (i := 515) rfl (fun h149 => ?_)
  refine s_bud 11 8820 (by omega) (by omega) ?_
  refine s_dup (i := 516) rfl rfl ?_
  refine s_bud 11 8820 (by omega) (by omega) ?_
  refine s_bipush (i := 517) rfl (v := (68 : Int32)) (by decide) ?_
  refine s_bud 11 8820 (by omega) (by omega) ?_
  refine s_bipush (i := 518) rfl (v := (32 : Int32)) (by decide) ?_
  refine s_bud 11 8820 (by omega) (by omega) ?_
  refine s_iastore (i := 519) rfl (fun h150 => ?_)
  refine s_bud 11 8820 (by omega) (by omega) ?_
  refine s_dup (i := 520) rfl rfl ?_
  refine s_bud 11 8820 (by omega) (by omega) ?_
  refine s_bipush (i := 521) rfl (v := (69 : Int32)) (by decide) ?_
  refine s_bud 11 8820 (by omega) (by omega) ?_
  refine s_bipush (i := 522) rfl (v := (32 : Int32)) (by decide) ?_
  refine s_bud 11 8820 (by omega) (by omega) ?_
  refine s_iastore (i := 523) rfl (fun h151 => ?_)
  refine s_bud 11 8820 (by omega) (by omega) ?_
  refine s_dup (i := 524) rfl rfl ?_
  refine s_bud 11 8820 (by omega) (by omega) ?_
  refine s_bipush (i := 525) rfl (v := (70 : Int32)) (by decide) ?_
  refine s_bud 11 8820 (by omega) (by omega) ?_
  refine s_bipush (i := 526) rfl (v := (32 : Int32)) (by decide) ?_
  refine s_bud 11 8820 (by omega) (by omega) ?_
  refine s_iastore (i := 527) rfl (fun h152 => ?_)
  refine s_bud 11 8820 (by omega) (by omega) ?_
  refine s_dup (i := 528) rfl rfl ?_
  refine s_bud 11 8820 (by omega) (by omega) ?_
  refine s_bipush (i := 529) rfl (v := (71 : Int32)) (by decide) ?_
  refine s_bud 11 8820 (by omega) (by omega) ?_
  refine s_bipush (i := 530) rfl (v := (32 : Int32)) (by decide) ?_
  refine s_bud 11 8820 (by omega) (by omega) ?_
  refine s_iastore (i := 531) rfl (fun h153 => ?_)
  refine s_bud 11 8820 (by omega) (by omega) ?_
  refine s_dup (i := 532) rfl rfl ?_
  refine s_bud 11 8820 (by omega) (by omega) ?_
  refine s_bipush (i := 533) rfl (v := (72 : Int32)) (by decide) ?_
  refine s_bud 11 8820 (by omega) (by omega) ?_
  refine s_bipush (i := 534) rfl (v := (111 : Int32)) (by decide) ?_
  refine s_bud 11 8820 (by omega) (by omega) ?_
  refine s_iastore (i := 535) rfl (fun h154 => ?_)
  refine s_bud 11 8820 (by omega) (by omega) ?_
  refine s_dup (i := 536) rfl rfl ?_
  refine s_bud 11 8820 (by omega) (by omega) ?_
  refine s_bipush (i := 537) rfl (v := (73 : Int32)) (by decide) ?_
  refine s_bud 11 8820 (by omega) (by omega) ?_
  refine s_bipush (i := 538) rfl (v := (114 : Int32)) (by decide) ?_
  refine s_bud 11 8820 (by omega) (by omega) ?_
  refine s_iastore (i := 539) rfl (fun h155 => ?_)
  refine s_bud 11 8820 (by omega) (by omega) ?_
  refine s_dup (i := 540) rfl rfl ?_
  refine s_bud 11 8820 (by omega) (by omega) ?_
  refine s_bipush (i := 541) rfl (v := (74 : Int32)) (by decide) ?_
  refine s_bud 11 8820 (by omega) (by omega) ?_
  refine s_bipush (i := 542) rfl (v := (32 : Int32)) (by decide) ?_
  refine s_bud 11 8820 (by omega) (by omega) ?_
  refine s_iastore (i := 543) rfl (fun h156 => ?_)
  refine s_bud 11 8820 (by omega) (by omega) ?_
  refine s_dup (i := 544) rfl rfl ?_
  refine s_bud 11 8820 (by omega) (by omega) ?_
  refine s_bipush (i := 545) rfl (v := (75 : Int32)) (by decide) ?_
  refine s_bud 11 8820 (by omega) (by omega) ?_
  refine s_bipush (i := 546) rfl (v := (32 : Int32)) (by decide) ?_
  refine s_bud 11 8820 (by omega) (by omega) ?_
  refine s_iastore (i := 547) rfl (fun h157 => ?_)
  refine s_bud 11 8820 (by omega) (by omega) ?_
  refine s_dup (i := 548) rfl rfl ?_
  refine s_bud 11 8820 (by omega) (by omega) ?_
  refine s_bipush (i := 549) rfl (v := (76 : Int32)) (by decide) ?_
  refine s_bud 11 8820 (by omega) (by omega) ?_
  refine s_bipush (i := 550) rfl (v := (32 : Int32)) (by decide) ?_
  refine s_bud 11 8820 (by omega) (by omega) ?_
  refine s_iastore (i := 551) rfl (fun h158 => ?_)
  refine s_bud 11 8820 (by omega) (by omega) ?_
  refine s_dup (i := 552) rfl rfl ?_
  refine s_bud 11 8820 (by omega) (by omega) ?_
  refine s_bipush (i := 553) rfl (v := (77 : Int32)) (by decide) ?_
  refine s_bud 11 8820 (by omega) (by omega) ?_
  refine s_bipush (i := 554) rfl (v := (32 : Int32)) (by decide) ?_
  refine s_bud 11 8820 (by omega) (by omega) ?_
  refine s_iastore (i := 555) rfl (fun h159 => ?_)
  refine s_bud 11 8820 (by omega) (by omega) ?_
  refine s_dup (i := 556) rfl rfl ?_
  refine s_bud 11 8820 (by omega) (by omega) ?_
  refine s_bipush (i := 557) rfl (v := (78 : Int32)) (by decide) ?_
  refine s_bud 11 8820 (by omega) (by omega) ?_
  refine s_bipush (i := 558) rfl (v := (32 : Int32)) (by decide) ?_
  refine s_bud 11 8820 (by omega) (by omega) ?_
  refine s_iastore (i := 559) rfl (fun h160 => ?_)
  refine s_bud 11 8820 (by omega) (by omega) ?_
  refine s_dup (i := 560) rfl rfl ?_
  refine s_bud 11 8820 (by omega) (by omega) ?_
  refine s_bipush (i := 561) rfl (v := (79 : Int32)) (by decide) ?_
  refine s_bud 11 8820 (by omega) (by omega) ?_
  refine s_bipush (i := 562) rfl (v := (32 : Int32)) (by decide) ?_
  refine s_bud 11 8820 (by omega) (by omega) ?_
  refine s_iastore (i := 563) rfl (fun h161 => ?_)
  refine s_bud 11 8820 (by omega) (by omega) ?_
  refine s_dup (i := 564) rfl rfl ?_
  refine s_bud 11 8820 (by omega) (by omega) ?_
  refine s_bipush (i := 565) rfl (v := (80 : Int32)) (by decide) ?_
  refine s_bud 11 8820 (by omega) (by omega) ?_
  refine s_bipush (i := 566) rfl (v := (97 : Int32)) (by decide) ?_
  refine s_bud 11 8820 (by omega) (by omega) ?_
  refine s_iastore (i := 567) rfl (fun h162 => ?_)
  refine s_bud 11 8820 (by omega) (by omega) ?_
  refine s_dup (i := 568) rfl rfl ?_
  refine s_bud 11 8820 (by omega) (by omega) ?_
  refine s_bipush (i := 569) rfl (v := (81 : Int32)) (by decide) ?_
  refine s_bud 11 8820 (by omega) (by omega) ?_
  refine s_bipush (i := 570) rfl (v := (110 : Int32)) (by decide) ?_
  refine s_bud 11 8820 (by omega) (by omega) ?_
  refine s_iastore (i := 571) rfl (fun h163 => ?_)
  refine s_bud 11 8820 (by omega) (by omega) ?_
  refine s_dup (i := 572) rfl rfl ?_
  refine s_bud 11 8820 (by omega) (by omega) ?_
  refine s_bipush (i := 573) rfl (v := (82 : Int32)) (by decide) ?_
  refine s_bud 11 8820 (by omega) (by omega) ?_
  refine s_bipush (i := 574) rfl (v := (100 : Int32)) (by decide) ?_
  refine s_bud 11 8820 (by omega) (by omega) ?_
  refine s_iastore (i := 575) rfl (fun h164 => ?_)
  refine s_bud 11 8820 (by omega) (by omega) ?_
  refine s_dup (i := 576) rfl rfl ?_
  refine s_bud 11 8820 (by omega) (by omega) ?_
  refine s_bipush (i := 577) rfl (v := (83 : Int32)) (by decide) ?_
  refine s_bud 11 8820 (by omega) (by omega) ?_
  refine s_bipush (i := 578) rfl (v := (32 : Int32)) (by decide) ?_
  refine s_bud 11 8820 (by omega) (by omega) ?_
  refine s_iastore (i := 579) rfl (fun h165 => ?_)
  refine s_bud 11 8820 (by omega) (by omega) ?_
  refine s_dup (i := 580) rfl rfl ?_
  refine s_bud 11 8820 (by omega) (by omega) ?_
  refine s_bipush (i := 581) rfl (v := (84 : Int32)) (by decide) ?_
  refine s_bud 11 8820 (by omega) (by omega) ?_
  refine s_bipush (i := 582) rfl (v := (32 : Int32)) (by decide) ?_
  refine s_bud 11 8820 (by omega) (by omega) ?_
  refine s_iastore (i := 583) rfl (fun h166 => ?_)
  refine s_bud 11 8820 (by omega) (by omega) ?_
  refine s_dup (i := 584) rfl rfl ?_
  refine s_bud 11 8820 (by omega) (by omega) ?_
  refine s_bipush (i := 585) rfl (v := (85 : Int32)) (by decide) ?_
  refine s_bud 11 8820 (by omega) (by omega) ?_
  refine s_bipush (i := 586) rfl (v := (32 : Int32)) (by decide) ?_
  refine s_bud 11 8820 (by omega) (by omega) ?_
  refine s_iastore (i := 587) rfl (fun h167 => ?_)
  refine s_bud 11 8820 (by omega) (by omega) ?_
  refine s_dup (i := 588) rfl rfl ?_
  refine s_bud 11 8820 (by omega) (by omega) ?_
  refine s_bipush (i := 589) rfl (v := (86 : Int32)) (by decide) ?_
  refine s_bud 11 8820 (by omega) (by omega) ?_
  refine s_bipush (i := 590) rfl (v := (32 : Int32)) (by decide) ?_
  refine s_bud 11 8820 (by omega) (by omega) ?_
  refine s_iastore (i := 591) rfl (fun h168 => ?_)
  refine s_bud 11 8820 (by omega) (by omega) ?_
  refine s_dup (i := 592) rfl rfl ?_
  refine s_bud 11 8820 (by omega) (by omega) ?_
  refine s_bipush (i := 593) rfl (v := (87 : Int32)) (by decide) ?_
  refine s_bud 11 8820 (by omega) (by omega) ?_
  refine s_bipush (i := 594) rfl (v := (32 : Int32)) (by decide) ?_
  refine s_bud 11 8820 (by omega) (by omega) ?_
  refine s_iastore (i := 595) rfl (fun h169 => ?_)
  refine s_bud 11 8820 (by omega) (by omega) ?_
  refine s_dup (i := 596) rfl rfl ?_
  refine s_bud 11 8820 (by omega) (by omega) ?_
  refine s_bipush (i := 597) rfl (v := (88 : Int32)) (by decide) ?_
  refine s_bud 11 8820 (by omega) (by omega) ?_
  refine s_bipush (i := 598) rfl (v := (110 : Int32)) (by decide) ?_
  refine s_bud 11 8820 (by omega) (by omega) ?_
  refine s_iastore (i := 599) rfl (fun h170 => ?_)
  refine s_bud 11 8820 (by omega) (by omega) ?_
  refine s_dup (i := 600) rfl rfl ?_
  refine s_bud 11 8820 (by omega) (by omega) ?_
  refine s_bipush (i := 601) rfl (v := (89 : Int32)) (by decide) ?_
  refine s_bud 11 8820 (by omega) (by omega) ?_
  refine s_bipush (i := 602) rfl (v := (111 : Int32)) (by decide) ?_
  refine s_bud 11 8820 (by omega) (by omega) ?_
  refine s_iastore (i := 603) rfl (fun h171 => ?_)
  refine s_bud 11 8820 (by omega) (by omega) ?_
  refine s_dup (i := 604) rfl rfl ?_
  refine s_bud 11 8820 (by omega) (by omega) ?_
  refine s_bipush (i := 605) rfl (v := (90 : Int32)) (by decide) ?_
  refine s_bud 11 8820 (by omega) (by omega) ?_
  refine s_bipush (i := 606) rfl (v := (116 : Int32)) (by decide) ?_
  refine s_bud 11 8820 (by omega) (by omega) ?_
  refine s_iastore (i := 607) rfl (fun h172 => ?_)
  refine s_bud 11 8820 (by omega) (by omega) ?_
  refine s_dup (i := 608) rfl rfl ?_
  refine s_bud 11 8820 (by omega) (by omega) ?_
  refine s_bipush (i := 609) rfl (v := (91 : Int32)) (by decide) ?_
  refine s_bud 11 8820 (by omega) (by omega) ?_
  refine s_bipush (i := 610) rfl (v := (32 : Int32)) (by decide) ?_
  refine s_bud 11 8820 (by omega) (by omega) ?_
  refine s_iastore (i := 611) rfl (fun h173 => ?_)
  refine s_bud 11 8820 (by omega) (by omega) ?_
  refine s_dup (i := 612) rfl rfl ?_
  refine s_bud 11 8820 (by omega) (by omega) ?_
  refine s_bipush (i := 613) rfl (v := (92 : Int32)) (by decide) ?_
  refine s_bud 11 8820 (by omega) (by omega) ?_
  refine s_bipush (i := 614) rfl (v := (32 : Int32)) (by decide) ?_
  refine s_bud 11 8820 (by omega) (by omega) ?_
  refine s_iastore (i := 615) rfl (fun h174 => ?_)
  refine s_bud 11 8820 (by omega) (by omega) ?_
  refine s_dup (i := 616) rfl rfl ?_
  refine s_bud 11 8820 (by omega) (by omega) ?_
  refine s_bipush (i := 617) rfl (v := (93 : Int32)) (by decide) ?_
  refine s_bud 11 8820 (by omega) (by omega) ?_
  refine s_bipush (i := 618) rfl (v := (32 : Int32)) (by decide) ?_
  refine s_bud 11 8820 (by omega) (by omega) ?_
  refine s_iastore (i := 619) rfl (fun h175 => ?_)
  refine s_bud 11 8820 (by omega) (by omega) ?_
  refine s_dup (i := 620) rfl rfl ?_
  refine s_bud 11 8820 (by omega) (by omega) ?_
  refine s_bipush (i := 621) rfl (v := (94 : Int32)) (by decide) ?_
  refine s_bud 11 8820 (by omega) (by omega) ?_
  refine s_bipush (i := 622) rfl (v := (32 : Int32)) (by decide) ?_
  refine s_bud 11 8820 (by omega) (by omega) ?_
  refine s_iastore (i := 623) rfl (fun h176 => ?_)
  refine s_bud 11 8820 (by omega) (by omega) ?_
  refine s_dup (i := 624) rfl rfl ?_
  refine s_bud 11 8820 (by omega) (by omega) ?_
  refine s_bipush (i := 625) rfl (v := (95 : Int32)) (by decide) ?_
  refine s_bud 11 8820 (by omega) (by omega) ?_
  refine s_bipush (i := 626) rfl (v := (32 : Int32)) (by decide) ?_
  refine s_bud 11 8820 (by omega) (by omega) ?_
  refine s_iastore (i := 627) rfl (fun h177 => ?_)
  refine s_bud 11 8820 (by omega) (by omega) ?_
  refine s_putR (i := 628) rfl xf_9_53 (fun _ => rfl) rfl (Or.inr ⟨_, rfl⟩) (fun h178 => ?_)
  refine s_bud 11 8820 (by omega) (by omega) ?_
  refine s_aload_n (i := 629) rfl 0 rfl ?_
  refine s_bud 11 8820 (by omega) (by omega) ?_
  refine s_sipush (i := 630) rfl (v := (200 : Int32)) (by decide) ?_
  refine s_bud 11 8820 (by omega) (by omega) ?_
  refine s_bud (1 + 10) (200 + 8620) (by omega) (by omega) ?_
  refine s_newarr (i := 631) rfl (lim := 200) (Or.inl ⟨rfl, rfl⟩) (by decide) (tw158) (fun h179 => ?_)
  refine s_bud 10 8620 (by omega) (by omega) ?_
  refine s_putR (i := 632) rfl xf_9_56 (fun _ => rfl) rfl (Or.inr ⟨_, rfl⟩) (fun h180 => ?_)
  refine s_bud 10 8620 (by omega) (by omega) ?_
  refine s_aload_n (i := 633) rfl 0 rfl ?_
  refine s_bud 10 8620 (by omega) (by omega) ?_
  refine s_sipush (i := 634) rfl (v := (200 : Int32)) (by decide) ?_
  refine s_bud 10 8620 (by omega) (by omega) ?_
  refine s_bud (1 + 9) (200 + 8420) (by omega) (by omega) ?_
  refine s_newarr (i := 635) rfl (lim := 200) (Or.inl ⟨rfl, rfl⟩) (by decide) (tw158) (fun h181 => ?_)
  refine s_bud 9 8420 (by omega) (by omega) ?_
  refine s_putR (i := 636) rfl xf_9_59 (fun _ => rfl) rfl (Or.inr ⟨_, rfl⟩) (fun h182 => ?_)
  refine s_bud 9 8420 (by omega) (by omega) ?_
  refine s_aload_n (i := 637) rfl 0 rfl ?_
  refine s_bud 9 8420 (by omega) (by omega) ?_
  refine s_bipush (i := 638) rfl (v := (6 : Int32)) (by decide) ?_
  refine s_bud 9 8420 (by omega) (by omega) ?_
  refine s_bud (1 + 8) (6 + 8414) (by omega) (by omega) ?_
  refine s_newarr (i := 639) rfl (lim := 6) (Or.inl ⟨rfl, rfl⟩) (by decide) (tw158) (fun h183 => ?_)
  refine s_bud 8 8414 (by omega) (by omega) ?_
  refine s_putR (i := 640) rfl xf_9_62 (fun _ => rfl) rfl (Or.inr ⟨_, rfl⟩) (fun h184 => ?_)
  refine s_bud 8 8414 (by omega) (by omega) ?_
  refine s_aload_n (i := 641) rfl 0 rfl ?_
  refine s_bud 8 8414 (by omega) (by omega) ?_
  refine s_sipush (i := 642) rfl (v := (4096 : Int32)) (by decide) ?_
  refine s_bud 8 8414 (by omega) (by omega) ?_
  refine s_bud (1 + 7) (4096 + 4318) (by omega) (by omega) ?_
  refine s_newarr (i := 643) rfl (lim := 4096) (Or.inr ⟨rfl, rfl⟩) (by decide) (tw1161) (fun h185 => ?_)
  refine s_bud 7 4318 (by omega) (by omega) ?_
  refine s_putR (i := 644) rfl xf_9_65 (fun _ => rfl) rfl (Or.inr ⟨_, rfl⟩) (fun h186 => ?_)
  refine s_bud 7 4318 (by omega) (by omega) ?_
  refine s_aload_n (i := 645) rfl 0 rfl ?_
  refine s_bud 7 4318 (by omega) (by omega) ?_
  refine s_sipush (i := 646) rfl (v := (4096 : Int32)) (by decide) ?_
  refine s_bud 7 4318 (by omega) (by omega) ?_
  refine s_bud (1 + 6) (4096 + 222) (by omega) (by omega) ?_
  refine s_newarr (i := 647) rfl (lim := 4096) (Or.inl ⟨rfl, rfl⟩) (by decide) (tw158) (fun h187 => ?_)
  refine s_bud 6 222 (by omega) (by omega) ?_
  refine s_putR (i := 648) rfl xf_9_69 (fun _ => rfl) rfl (Or.inr ⟨_, rfl⟩) (fun h188 => ?_)
  refine s_bud 6 222 (by omega) (by omega) ?_
  refine s_aload_n (i := 649) rfl 0 rfl ?_
  refine s_bud 6 222 (by omega) (by omega) ?_
  refine s_bipush (i := 650) rfl (v := (64 : Int32)) (by decide) ?_
  refine s_bud 6 222 (by omega) (by omega) ?_
  refine s_bud (1 + 5) (64 + 158) (by omega) (by omega) ?_
  refine s_newarr (i := 651) rfl (lim := 64) (Or.inl ⟨rfl, rfl⟩) (by decide) (tw158) (fun h189 => ?_)
  refine s_bud 5 158 (by omega) (by omega) ?_
  refine s_putR (i := 652) rfl xf_9_72 (fun _ => rfl) rfl (Or.inr ⟨_, rfl⟩) (fun h190 => ?_)
  refine s_bud 5 158 (by omega) (by omega) ?_
  refine s_aload_n (i := 653) rfl 0 rfl ?_
  refine s_bud 5 158 (by omega) (by omega) ?_
  refine s_bipush (i := 654) rfl (v := (28 : Int32)) (by decide) ?_
  refine s_bud 5 158 (by omega) (by omega) ?_
  refine s_bud (1 + 4) (28 + 130) (by omega) (by omega) ?_
  refine s_newarr (i := 655) rfl (lim := 28) (Or.inl ⟨rfl, rfl⟩) (by decide) (tw158) (fun h191 => ?_)
  refine s_bud 4 130 (by omega) (by omega) ?_
  refine s_putR (i := 656) rfl xf_9_75 (fun _ => rfl) rfl (Or.inr ⟨_, rfl⟩) (fun h192 => ?_)
  refine s_bud 4 130 (by omega) (by omega) ?_
  refine s_aload_n (i := 657) rfl 0 rfl ?_
  refine s_bud 4 130 (by omega) (by omega) ?_
  refine s_bipush (i := 658) rfl (v := (49 : Int32)) (by decide) ?_
  refine s_bud 4 130 (by omega) (by omega) ?_
  refine s_bud (1 + 3) (49 + 81) (by omega) (by omega) ?_
  refine s_newarr (i := 659) rfl (lim := 49) (Or.inl ⟨rfl, rfl⟩) (by decide) (tw158) (fun h193 => ?_)
  refine s_bud 3 81 (by omega) (by omega) ?_
  refine s_putR (i := 660) rfl xf_9_78 (fun _ => rfl) rfl (Or.inr ⟨_, rfl⟩) (fun h194 => ?_)
  refine s_bud 3 81 (by omega) (by omega) ?_
  refine s_aload_n (i := 661) rfl 0 rfl ?_
  refine s_bud 3 81 (by omega) (by omega) ?_
  refine s_bipush (i := 662) rfl (v := (28 : Int32)) (by decide) ?_
  refine s_bud 3 81 (by omega) (by omega) ?_
  refine s_bud (1 + 2) (28 + 53) (by omega) (by omega) ?_
  refine s_newarr (i := 663) rfl (lim := 28) (Or.inl ⟨rfl, rfl⟩) (by decide) (tw158) (fun h195 => ?_)
  refine s_bud 2 53 (by omega) (by omega) ?_
  refine s_putR (i := 664) rfl xf_9_81 (fun _ => rfl) rfl (Or.inr ⟨_, rfl⟩) (fun h196 => ?_)
  refine s_bud 2 53 (by omega) (by omega) ?_
  refine s_aload_n (i := 665) rfl 0 rfl ?_
  refine s_bud 2 53 (by omega) (by omega) ?_
  refine s_bipush (i := 666) rfl (v := (49 : Int32)) (by decide) ?_
  refine s_bud 2 53 (by omega) (by omega) ?_
  refine s_bud (1 + 1) (49 + 4) (by omega) (by omega) ?_
  refine s_newarr (i := 667) rfl (lim := 49) (Or.inl ⟨rfl, rfl⟩) (by decide) (tw158) (fun h197 => ?_)
  refine s_bud 1 4 (by omega) (by omega) ?_
  refine s_putR (i := 668) rfl xf_9_84 (fun _ => rfl) rfl (Or.inr ⟨_, rfl⟩) (fun h198 => ?_)
  refine s_bud 1 4 (by omega) (by omega) ?_
  refine s_aload_n (i := 669) rfl 0 rfl ?_
  refine s_bud 1 4 (by omega) (by omega) ?_
  refine s_iconst (i := 670) rfl (v := (4 : Int32)) (by decide) ?_
  refine s_bud 1 4 (by omega) (by omega) ?_
  refine s_bud (1 + 0) (4 + 0) (by omega) (by omega) ?_
  refine s_newarr (i := 671) rfl (lim := 4) (Or.inl ⟨rfl, rfl⟩) (by decide) (tw158) (fun h199 => ?_)
  refine s_bud 0 0 (by omega) (by omega) ?_
  refine s_putR (i := 672) rfl xf_9_87 (fun _ => rfl) rfl (Or.inr ⟨_, rfl⟩) (fun h200 => ?_)
  refine s_bud 0 0 (by omega) (by omega) ?_
  refine s_iconst (i := 673) rfl (v := (0 : Int32)) (by decide) ?_
  refine s_bud 0 0 (by omega) (by omega) ?_
  refine s_istore_n (i := 674) rfl (Nat.le_of_ble_eq_true rfl) (ls2 := [(1, tI ((0 : Int32))), (0, tA a0)]) rfl ?_
  exact s_sub [1, 0] rfl (b_X9_init_1048 X FU h200 a0 ((0 : Int32)))
def y_X9_within : MethodName := ⟨"OpensAtNineModel", "within", "(III)I"⟩
def T_X9_within : List (Nat × Instr × Nat × Nat) := [(0, .iload_n 0, 1, 1), (1, .iload_n 1, 1, 2), (2, .if_icmp .ge 7, 3, 5), (5, .iload_n 1, 1, 6), (6, .goto 13, 3, 9), (9, .iload_n 0, 1, 10), (10, .iload_n 2, 1, 11), (11, .if_icmp .le 7, 3, 14), (14, .iload_n 2, 1, 15), (15, .goto 4, 3, 18), (18, .iload_n 0, 1, 19), (19, .ireturn, 1, 20)]
def I_X9_within : MI := (prog_11_method_4_code, 3, (some .int), "OpensAtNineModel", "within", T_X9_within, 0, 0, 1, 60)
theorem dT_X9_within : ∀ q ∈ T_X9_within, decode prog_11_method_4_code q.1 = .ok (q.2.1, q.2.2.1) ∧ q.2.2.2 = q.1 + q.2.2.1 := by decide +kernel
theorem xm_X9_within : xCS y_X9_within I_X9_within 3 := ⟨tw1214, tw84, tw1215, ⟨by decide +kernel, by decide +kernel, by decide +kernel⟩⟩
noncomputable def f_X9_within_19 (h : XM) (s0 : Int32) : Option (Int32 × XM) := some (s0, h)
noncomputable def f_X9_within (h : XM) (a0 : Int32) (a1 : Int32) (a2 : Int32) : Option (Int32 × XM) := if a0 < a1 then (f_X9_within_19 h a1) else (if a2 < a0 then (f_X9_within_19 h a2) else (f_X9_within_19 h a0))
theorem b_X9_within_19 (X : XX) (h : XM) (s0 : Int32) : SW X I_X9_within ρi 19 [] [tI s0] h 0 0 (f_X9_within_19 h s0) := by
  unfold f_X9_within_19
  exact s_iret (i := 11) rfl rfl
theorem c_X9_within (h : XM) (a0 : Int32) (a1 : Int32) (a2 : Int32) : MC I_X9_within y_X9_within [tI a0, tI a1, tI a2] h ρi (f_X9_within h a0 a1 a2) := by
  refine MC_of ⟨by decide +kernel, rfl, rfl, Nat.le_of_ble_eq_true rfl⟩ dT_X9_within (fun X => ?_)
  show SW X I_X9_within ρi 0 [(0, tI a0), (1, tI a1), (2, tI a2)] [] h 0 0 (f_X9_within h a0 a1 a2)
  unfold f_X9_within
  refine s_iload_n (i := 0) rfl 0 rfl ?_
  refine s_iload_n (i := 1) rfl 1 rfl ?_
  refine s_icmpge (i := 2) rfl (tgt := 9) (by decide) (fun z2 => ?_) (fun z2 => ?_)
  · refine s_iload_n (i := 3) rfl 1 rfl ?_
    refine s_goto (i := 4) rfl (tgt := 19) (by decide) ?_
    exact s_sub [] rfl (b_X9_within_19 X h a1)
  · refine s_iload_n (i := 5) rfl 0 rfl ?_
    refine s_iload_n (i := 6) rfl 2 rfl ?_
    refine s_icmple (i := 7) rfl (tgt := 18) (by decide) (fun z11 => ?_) (fun z11 => ?_)
    · refine s_iload_n (i := 8) rfl 2 rfl ?_
      refine s_goto (i := 9) rfl (tgt := 19) (by decide) ?_
      exact s_sub [] rfl (b_X9_within_19 X h a2)
    · refine s_iload_n (i := 10) rfl 0 rfl ?_
      exact s_sub [] rfl (b_X9_within_19 X h a0)
def y_X9_isOne : MethodName := ⟨"OpensAtNineModel", "isOne", "(I)Z"⟩
def T_X9_isOne : List (Nat × Instr × Nat × Nat) := [(0, .iload_n 1, 1, 1), (1, .iconst 0, 1, 2), (2, .aload_n 0, 1, 3), (3, .getfield 97, 3, 6), (6, .iconst 1, 1, 7), (7, .isub, 1, 8), (8, .invokestatic 100, 3, 11), (11, .ireturn, 1, 12)]
def I_X9_isOne : MI := (prog_11_method_5_code, 2, (some .boolean), "OpensAtNineModel", "isOne", T_X9_isOne, 0, 0, 2, 82)
theorem dT_X9_isOne : ∀ q ∈ T_X9_isOne, decode prog_11_method_5_code q.1 = .ok (q.2.1, q.2.2.1) ∧ q.2.2.2 = q.1 + q.2.2.1 := by decide +kernel
theorem xm_X9_isOne : xCM y_X9_isOne I_X9_isOne 9 1 := ⟨⟨tw1176, tw39⟩, tw84, tw1177, ⟨xT9, 49, rfl⟩, ⟨by decide +kernel, by decide +kernel, by decide +kernel⟩⟩
noncomputable def f_X9_isOne (h : XM) (a0 : Option Nat) (a1 : Int32) : Option (Int32 × XM) := (gI h 9 a0 3).bind fun v1 => (f_X9_in h a1 ((0 : Int32)) (v1 - ((1 : Int32)))).bind fun q2 => rz q2.2 q2.1
theorem c_X9_isOne (h : XM) (a0 : Option Nat) (a1 : Int32) : MC I_X9_isOne y_X9_isOne [tA a0, tI a1] h ρi (f_X9_isOne h a0 a1) := by
  refine MC_of ⟨by decide +kernel, rfl, rfl, Nat.le_of_ble_eq_true rfl⟩ dT_X9_isOne (fun X => ?_)
  show SW X I_X9_isOne ρi 0 [(0, tA a0), (1, tI a1)] [] h 0 0 (f_X9_isOne h a0 a1)
  unfold f_X9_isOne
  refine s_iload_n (i := 0) rfl 1 rfl ?_
  refine s_iconst (i := 1) rfl (v := (0 : Int32)) (by decide) ?_
  refine s_aload_n (i := 2) rfl 0 rfl ?_
  refine s_getI (i := 3) rfl xf_9_97.r rfl (fun v1 => ?_)
  refine s_iconst (i := 4) rfl (v := (1 : Int32)) (by decide) ?_
  refine s_isub (i := 5) rfl ?_
  refine u_callSi [tI a1, tI ((0 : Int32)), tI (v1 - ((1 : Int32)))] [] rfl (i := 6) rfl (c_X9_in h a1 ((0 : Int32)) (v1 - ((1 : Int32)))) xm_X9_in (tw974) rfl (Nat.le_of_ble_eq_true rfl) (xRm.of rfl) ⟨rfl, rfl⟩ (fun q2 => ?_)
  exact s_zret (i := 7) rfl rfl
def y_X9_isCoin : MethodName := ⟨"OpensAtNineModel", "isCoin", "(I)Z"⟩
def T_X9_isCoin : List (Nat × Instr × Nat × Nat) := [(0, .iload_n 1, 1, 1), (1, .iconst 0, 1, 2), (2, .aload_n 0, 1, 3), (3, .getfield 104, 3, 6), (6, .iconst 1, 1, 7), (7, .isub, 1, 8), (8, .invokestatic 100, 3, 11), (11, .ireturn, 1, 12)]
def I_X9_isCoin : MI := (prog_11_method_6_code, 2, (some .boolean), "OpensAtNineModel", "isCoin", T_X9_isCoin, 0, 0, 2, 82)
theorem dT_X9_isCoin : ∀ q ∈ T_X9_isCoin, decode prog_11_method_6_code q.1 = .ok (q.2.1, q.2.2.1) ∧ q.2.2.2 = q.1 + q.2.2.1 := by decide +kernel
theorem xm_X9_isCoin : xCM y_X9_isCoin I_X9_isCoin 9 1 := ⟨⟨tw1233, tw43⟩, tw84, tw1234, ⟨xT9, 49, rfl⟩, ⟨by decide +kernel, by decide +kernel, by decide +kernel⟩⟩
noncomputable def f_X9_isCoin (h : XM) (a0 : Option Nat) (a1 : Int32) : Option (Int32 × XM) := (gI h 9 a0 5).bind fun v1 => (f_X9_in h a1 ((0 : Int32)) (v1 - ((1 : Int32)))).bind fun q2 => rz q2.2 q2.1
theorem c_X9_isCoin (h : XM) (a0 : Option Nat) (a1 : Int32) : MC I_X9_isCoin y_X9_isCoin [tA a0, tI a1] h ρi (f_X9_isCoin h a0 a1) := by
  refine MC_of ⟨by decide +kernel, rfl, rfl, Nat.le_of_ble_eq_true rfl⟩ dT_X9_isCoin (fun X => ?_)
  show SW X I_X9_isCoin ρi 0 [(0, tA a0), (1, tI a1)] [] h 0 0 (f_X9_isCoin h a0 a1)
  unfold f_X9_isCoin
  refine s_iload_n (i := 0) rfl 1 rfl ?_
  refine s_iconst (i := 1) rfl (v := (0 : Int32)) (by decide) ?_
  refine s_aload_n (i := 2) rfl 0 rfl ?_
  refine s_getI (i := 3) rfl xf_9_104.r rfl (fun v1 => ?_)
  refine s_iconst (i := 4) rfl (v := (1 : Int32)) (by decide) ?_
  refine s_isub (i := 5) rfl ?_
  refine u_callSi [tI a1, tI ((0 : Int32)), tI (v1 - ((1 : Int32)))] [] rfl (i := 6) rfl (c_X9_in h a1 ((0 : Int32)) (v1 - ((1 : Int32)))) xm_X9_in (tw974) rfl (Nat.le_of_ble_eq_true rfl) (xRm.of rfl) ⟨rfl, rfl⟩ (fun q2 => ?_)
  exact s_zret (i := 7) rfl rfl
def y_X9_isInside : MethodName := ⟨"OpensAtNineModel", "isInside", "(I)Z"⟩
def T_X9_isInside : List (Nat × Instr × Nat × Nat) := [(0, .aload_n 0, 1, 1), (1, .getfield 107, 3, 4), (4, .iload_n 1, 1, 5), (5, .ishr, 1, 6), (6, .iconst 1, 1, 7), (7, .iand, 1, 8), (8, .iconst 1, 1, 9), (9, .if_icmp .ne 7, 3, 12), (12, .iconst 1, 1, 13), (13, .goto 4, 3, 16), (16, .iconst 0, 1, 17), (17, .ireturn, 1, 18)]
def I_X9_isInside : MI := (prog_11_method_7_code, 2, (some .boolean), "OpensAtNineModel", "isInside", T_X9_isInside, 0, 0, 1, 60)
theorem dT_X9_isInside : ∀ q ∈ T_X9_isInside, decode prog_11_method_7_code q.1 = .ok (q.2.1, q.2.2.1) ∧ q.2.2.2 = q.1 + q.2.2.1 := by decide +kernel
theorem xm_X9_isInside : xCM y_X9_isInside I_X9_isInside 9 1 := ⟨⟨tw1261, tw48⟩, tw84, tw1262, ⟨xT9, 49, rfl⟩, ⟨by decide +kernel, by decide +kernel, by decide +kernel⟩⟩
noncomputable def f_X9_isInside_17 (h : XM) (s0 : Int32) : Option (Int32 × XM) := rz h s0
noncomputable def f_X9_isInside (h : XM) (a0 : Option Nat) (a1 : Int32) : Option (Int32 × XM) := (gI h 9 a0 4).bind fun v1 => if ((v1 >>> (a1 &&& 31)) &&& ((1 : Int32))) = ((1 : Int32)) then (f_X9_isInside_17 h ((1 : Int32))) else (f_X9_isInside_17 h ((0 : Int32)))
theorem b_X9_isInside_17 (X : XX) (h : XM) (s0 : Int32) : SW X I_X9_isInside ρi 17 [] [tI s0] h 0 0 (f_X9_isInside_17 h s0) := by
  unfold f_X9_isInside_17
  exact s_zret (i := 11) rfl rfl
theorem c_X9_isInside (h : XM) (a0 : Option Nat) (a1 : Int32) : MC I_X9_isInside y_X9_isInside [tA a0, tI a1] h ρi (f_X9_isInside h a0 a1) := by
  refine MC_of ⟨by decide +kernel, rfl, rfl, Nat.le_of_ble_eq_true rfl⟩ dT_X9_isInside (fun X => ?_)
  show SW X I_X9_isInside ρi 0 [(0, tA a0), (1, tI a1)] [] h 0 0 (f_X9_isInside h a0 a1)
  unfold f_X9_isInside
  refine s_aload_n (i := 0) rfl 0 rfl ?_
  refine s_getI (i := 1) rfl xf_9_107.r rfl (fun v1 => ?_)
  refine s_iload_n (i := 2) rfl 1 rfl ?_
  refine s_ishr (i := 3) rfl ?_
  refine s_iconst (i := 4) rfl (v := (1 : Int32)) (by decide) ?_
  refine s_iand (i := 5) rfl ?_
  refine s_iconst (i := 6) rfl (v := (1 : Int32)) (by decide) ?_
  refine s_icmpne (i := 7) rfl (tgt := 16) (by decide) (fun z9 => ?_) (fun z9 => ?_)
  · refine s_iconst (i := 8) rfl (v := (1 : Int32)) (by decide) ?_
    refine s_goto (i := 9) rfl (tgt := 17) (by decide) ?_
    exact s_sub [] rfl (b_X9_isInside_17 X h ((1 : Int32)))
  · refine s_iconst (i := 10) rfl (v := (0 : Int32)) (by decide) ?_
    exact s_sub [] rfl (b_X9_isInside_17 X h ((0 : Int32)))
def y_X9_isLeft : MethodName := ⟨"OpensAtNineModel", "isLeft", "(I)Z"⟩
def T_X9_isLeft : List (Nat × Instr × Nat × Nat) := [(0, .aload_n 0, 1, 1), (1, .getfield 110, 3, 4), (4, .iload_n 1, 1, 5), (5, .ishr, 1, 6), (6, .iconst 1, 1, 7), (7, .iand, 1, 8), (8, .ifCond .ne 7, 3, 11), (11, .iconst 1, 1, 12), (12, .goto 4, 3, 15), (15, .iconst 0, 1, 16), (16, .ireturn, 1, 17)]
def I_X9_isLeft : MI := (prog_11_method_8_code, 2, (some .boolean), "OpensAtNineModel", "isLeft", T_X9_isLeft, 0, 0, 1, 60)
theorem dT_X9_isLeft : ∀ q ∈ T_X9_isLeft, decode prog_11_method_8_code q.1 = .ok (q.2.1, q.2.2.1) ∧ q.2.2.2 = q.1 + q.2.2.1 := by decide +kernel
theorem xm_X9_isLeft : xCM y_X9_isLeft I_X9_isLeft 9 1 := ⟨⟨tw1237, tw44⟩, tw84, tw1238, ⟨xT9, 49, rfl⟩, ⟨by decide +kernel, by decide +kernel, by decide +kernel⟩⟩
noncomputable def f_X9_isLeft_16 (h : XM) (s0 : Int32) : Option (Int32 × XM) := rz h s0
noncomputable def f_X9_isLeft (h : XM) (a0 : Option Nat) (a1 : Int32) : Option (Int32 × XM) := (gI h 9 a0 10).bind fun v1 => if ((v1 >>> (a1 &&& 31)) &&& ((1 : Int32))) = 0 then (f_X9_isLeft_16 h ((1 : Int32))) else (f_X9_isLeft_16 h ((0 : Int32)))
theorem b_X9_isLeft_16 (X : XX) (h : XM) (s0 : Int32) : SW X I_X9_isLeft ρi 16 [] [tI s0] h 0 0 (f_X9_isLeft_16 h s0) := by
  unfold f_X9_isLeft_16
  exact s_zret (i := 10) rfl rfl
theorem c_X9_isLeft (h : XM) (a0 : Option Nat) (a1 : Int32) : MC I_X9_isLeft y_X9_isLeft [tA a0, tI a1] h ρi (f_X9_isLeft h a0 a1) := by
  refine MC_of ⟨by decide +kernel, rfl, rfl, Nat.le_of_ble_eq_true rfl⟩ dT_X9_isLeft (fun X => ?_)
  show SW X I_X9_isLeft ρi 0 [(0, tA a0), (1, tI a1)] [] h 0 0 (f_X9_isLeft h a0 a1)
  unfold f_X9_isLeft
  refine s_aload_n (i := 0) rfl 0 rfl ?_
  refine s_getI (i := 1) rfl xf_9_110.r rfl (fun v1 => ?_)
  refine s_iload_n (i := 2) rfl 1 rfl ?_
  refine s_ishr (i := 3) rfl ?_
  refine s_iconst (i := 4) rfl (v := (1 : Int32)) (by decide) ?_
  refine s_iand (i := 5) rfl ?_
  refine s_ifne (i := 6) rfl (tgt := 15) (by decide) (fun z8 => ?_) (fun z8 => ?_)
  · refine s_iconst (i := 7) rfl (v := (1 : Int32)) (by decide) ?_
    refine s_goto (i := 8) rfl (tgt := 16) (by decide) ?_
    exact s_sub [] rfl (b_X9_isLeft_16 X h ((1 : Int32)))
  · refine s_iconst (i := 9) rfl (v := (0 : Int32)) (by decide) ?_
    exact s_sub [] rfl (b_X9_isLeft_16 X h ((0 : Int32)))
def y_X9_ones : MethodName := ⟨"OpensAtNineModel", "ones", "(I)I"⟩
def T_X9_ones : List (Nat × Instr × Nat × Nat) := [(0, .iconst 0, 1, 1), (1, .istore_n 1, 1, 2), (2, .iconst 0, 1, 3), (3, .istore_n 2, 1, 4), (4, .iload_n 2, 1, 5), (5, .bipush 24, 2, 7), (7, .if_icmp .ge 17, 3, 10), (10, .iload_n 1, 1, 11), (11, .iload_n 0, 1, 12), (12, .iload_n 2, 1, 13), (13, .ishr, 1, 14), (14, .iconst 1, 1, 15), (15, .iand, 1, 16), (16, .iadd, 1, 17), (17, .istore_n 1, 1, 18), (18, .iinc 2 1, 3, 21), (21, .goto (-17), 3, 24), (24, .iload_n 1, 1, 25), (25, .ireturn, 1, 26)]
def I_X9_ones : MI := (prog_11_method_9_code, 3, (some .int), "OpensAtNineModel", "ones", T_X9_ones, 0, 0, 1, 60)
theorem dT_X9_ones : ∀ q ∈ T_X9_ones, decode prog_11_method_9_code q.1 = .ok (q.2.1, q.2.2.1) ∧ q.2.2.2 = q.1 + q.2.2.1 := by decide +kernel
theorem xm_X9_ones : xCS y_X9_ones I_X9_ones 1 := ⟨tw1362, tw84, tw1363, ⟨by decide +kernel, by decide +kernel, by decide +kernel⟩⟩
noncomputable def fb_X9_ones_4 (k_4 : XM → Int32 → Int32 → Int32 → Option (Int32 × XM)) (h : XM) (l0 : Int32) (l1 : Int32) (l2 : Int32) : Option (Int32 × XM) := if l2 < ((24 : Int32)) then (bnd (l1 + ((l0 >>> (l2 &&& 31)) &&& ((1 : Int32)))) fun v1 => bnd (l2 + (1 : Int32)) fun v2 => k_4 h l0 v1 v2) else (some (l1, h))
noncomputable def f_X9_ones_4 (n : Nat) : XM → Int32 → Int32 → Int32 → Option (Int32 × XM) := Nat.rec (motive := fun _ => XM → Int32 → Int32 → Int32 → Option (Int32 × XM)) (fun _ _ _ _ => none) (fun _ ih h l0 l1 l2 => fb_X9_ones_4 ih h l0 l1 l2) n
noncomputable def f_X9_ones (h : XM) (a0 : Int32) : Option (Int32 × XM) := f_X9_ones_4 FU h a0 ((0 : Int32)) ((0 : Int32))
theorem bb_X9_ones_4 (X : XX) (k_4 : XM → Int32 → Int32 → Int32 → Option (Int32 × XM)) (hk_4 : ∀ h l0 l1 l2, SW X I_X9_ones ρi 4 [(0, tI l0), (1, tI l1), (2, tI l2)] [] h 0 0 (k_4 h l0 l1 l2)) (h : XM) (l0 : Int32) (l1 : Int32) (l2 : Int32) : SW X I_X9_ones ρi 4 [(0, tI l0), (1, tI l1), (2, tI l2)] [] h 0 0 (fb_X9_ones_4 k_4 h l0 l1 l2) := by
  unfold fb_X9_ones_4
  refine s_iload_n (i := 4) rfl 2 rfl ?_
  refine s_bipush (i := 5) rfl (v := (24 : Int32)) (by decide) ?_
  refine s_icmpge (i := 6) rfl (tgt := 24) (by decide) (fun z7 => ?_) (fun z7 => ?_)
  · refine s_iload_n (i := 7) rfl 1 rfl ?_
    refine s_iload_n (i := 8) rfl 0 rfl ?_
    refine s_iload_n (i := 9) rfl 2 rfl ?_
    refine s_ishr (i := 10) rfl ?_
    refine s_iconst (i := 11) rfl (v := (1 : Int32)) (by decide) ?_
    refine s_iand (i := 12) rfl ?_
    refine s_iadd (i := 13) rfl ?_
    refine s_bnd (fun v1 => ?_)
    refine s_istore_n (i := 14) rfl (Nat.le_of_ble_eq_true rfl) (ls2 := [(1, tI v1), (0, tI l0), (2, tI l2)]) rfl ?_
    refine s_inc (i := 15) rfl 2 rfl (c9 := (1 : Int32)) (by decide) (Nat.le_of_ble_eq_true rfl) (fun v2 => ?_)
    refine s_ls (ls2 := [(2, tI v2), (1, tI v1), (0, tI l0)]) rfl ?_
    refine s_goto (i := 16) rfl (tgt := 4) (by decide) ?_
    exact s_sub [2, 1, 0] rfl (hk_4 h l0 v1 v2)
  · refine s_iload_n (i := 17) rfl 1 rfl ?_
    exact s_iret (i := 18) rfl rfl
theorem b_X9_ones_4 (X : XX) : ∀ (n : Nat) (h : XM) (l0 : Int32) (l1 : Int32) (l2 : Int32), SW X I_X9_ones ρi 4 [(0, tI l0), (1, tI l1), (2, tI l2)] [] h 0 0 (f_X9_ones_4 n h l0 l1 l2) := by
  intro n
  induction n with
  | zero =>
    intro h l0 l1 l2
    exact s_none
  | succ n ih =>
    intro h l0 l1 l2
    exact bb_X9_ones_4 X (f_X9_ones_4 n) ih h l0 l1 l2
theorem c_X9_ones (h : XM) (a0 : Int32) : MC I_X9_ones y_X9_ones [tI a0] h ρi (f_X9_ones h a0) := by
  refine MC_of ⟨by decide +kernel, rfl, rfl, Nat.le_of_ble_eq_true rfl⟩ dT_X9_ones (fun X => ?_)
  show SW X I_X9_ones ρi 0 [(0, tI a0)] [] h 0 0 (f_X9_ones h a0)
  unfold f_X9_ones
  refine s_iconst (i := 0) rfl (v := (0 : Int32)) (by decide) ?_
  refine s_istore_n (i := 1) rfl (Nat.le_of_ble_eq_true rfl) (ls2 := [(1, tI ((0 : Int32))), (0, tI a0)]) rfl ?_
  refine s_iconst (i := 2) rfl (v := (0 : Int32)) (by decide) ?_
  refine s_istore_n (i := 3) rfl (Nat.le_of_ble_eq_true rfl) (ls2 := [(2, tI ((0 : Int32))), (1, tI ((0 : Int32))), (0, tI a0)]) rfl ?_
  exact s_sub [2, 1, 0] rfl (b_X9_ones_4 X FU h a0 ((0 : Int32)) ((0 : Int32)))
def y_X9_set : MethodName := ⟨"OpensAtNineModel", "set", "(II)I"⟩
def T_X9_set : List (Nat × Instr × Nat × Nat) := [(0, .iload_n 1, 1, 1), (1, .iconst 0, 1, 2), (2, .iconst 2, 1, 3), (3, .invokestatic 100, 3, 6), (6, .ifCond .ne 5, 3, 9), (9, .iconst (-1), 1, 10), (10, .ireturn, 1, 11), (11, .iload_n 2, 1, 12), (12, .iload_n 1, 1, 13), (13, .ifCond .ne 7, 3, 16), (16, .iconst 2, 1, 17), (17, .goto 4, 3, 20), (20, .iconst 0, 1, 21), (21, .iload_n 1, 1, 22), (22, .ifCond .ne 8, 3, 25), (25, .bipush 20, 2, 27), (27, .goto 16, 3, 30), (30, .iload_n 1, 1, 31), (31, .iconst 1, 1, 32), (32, .if_icmp .ne 9, 3, 35), (35, .sipush 9999, 3, 38), (38, .goto 5, 3, 41), (41, .bipush 99, 2, 43), (43, .invokestatic 100, 3, 46), (46, .ifCond .ne 6, 3, 49), (49, .bipush (-2), 2, 51), (51, .ireturn, 1, 52), (52, .iload_n 1, 1, 53), (53, .ifCond .ne 10, 3, 56), (56, .aload_n 0, 1, 57), (57, .getfield 7, 3, 60), (60, .goto 19, 3, 63), (63, .iload_n 1, 1, 64), (64, .iconst 1, 1, 65), (65, .if_icmp .ne 10, 3, 68), (68, .aload_n 0, 1, 69), (69, .getfield 113, 3, 72), (72, .goto 7, 3, 75), (75, .aload_n 0, 1, 76), (76, .getfield 116, 3, 79), (79, .istore_n 3, 1, 80), (80, .aload_n 0, 1, 81), (81, .iload_n 1, 1, 82), (82, .ifCond .ne 7, 3, 85), (85, .iload_n 2, 1, 86), (86, .goto 7, 3, 89), (89, .aload_n 0, 1, 90), (90, .getfield 7, 3, 93), (93, .putfield 7, 3, 96), (96, .aload_n 0, 1, 97), (97, .iload_n 1, 1, 98), (98, .iconst 1, 1, 99), (99, .if_icmp .ne 7, 3, 102), (102, .iload_n 2, 1, 103), (103, .goto 7, 3, 106), (106, .aload_n 0, 1, 107), (107, .getfield 113, 3, 110), (110, .putfield 113, 3, 113), (113, .aload_n 0, 1, 114), (114, .iload_n 1, 1, 115), (115, .iconst 2, 1, 116), (116, .if_icmp .ne 7, 3, 119), (119, .iload_n 2, 1, 120), (120, .goto 7, 3, 123), (123, .aload_n 0, 1, 124), (124, .getfield 116, 3, 127), (127, .putfield 116, 3, 130), (130, .iload_n 3, 1, 131), (131, .ireturn, 1, 132)]
def I_X9_set : MI := (prog_11_method_10_code, 4, (some .int), "OpensAtNineModel", "set", T_X9_set, 0, 0, 2, 82)
theorem dT_X9_set : ∀ q ∈ T_X9_set, decode prog_11_method_10_code q.1 = .ok (q.2.1, q.2.2.1) ∧ q.2.2.2 = q.1 + q.2.2.1 := by decide +kernel
theorem xm_X9_set : xCM y_X9_set I_X9_set 9 2 := ⟨⟨tw1163, tw1164⟩, tw84, tw1165, ⟨xT9, 49, rfl⟩, ⟨by decide +kernel, by decide +kernel, by decide +kernel⟩⟩
noncomputable def f_X9_set_127 (h : XM) (l3 : Int32) (s0 : Int32) (s1 : Option Nat) : Option (Int32 × XM) := (pI h 9 s1 2 s0).bind fun h1 => some (l3, h1)
noncomputable def f_X9_set_110 (h : XM) (l0 : Option Nat) (l1 : Int32) (l2 : Int32) (l3 : Int32) (s0 : Int32) (s1 : Option Nat) : Option (Int32 × XM) := (pI h 9 s1 1 s0).bind fun h2 => if l1 = ((2 : Int32)) then (f_X9_set_127 h2 l3 l2 l0) else ((gI h2 9 l0 2).bind fun v3 => f_X9_set_127 h2 l3 v3 l0)
noncomputable def f_X9_set_93 (h : XM) (l0 : Option Nat) (l1 : Int32) (l2 : Int32) (l3 : Int32) (s0 : Int32) (s1 : Option Nat) : Option (Int32 × XM) := (pI h 9 s1 0 s0).bind fun h4 => if l1 = ((1 : Int32)) then (f_X9_set_110 h4 l0 l1 l2 l3 l2 l0) else ((gI h4 9 l0 1).bind fun v5 => f_X9_set_110 h4 l0 l1 l2 l3 v5 l0)
noncomputable def f_X9_set_79 (h : XM) (l0 : Option Nat) (l1 : Int32) (l2 : Int32) (s0 : Int32) : Option (Int32 × XM) := if l1 = 0 then (f_X9_set_93 h l0 l1 l2 s0 l2 l0) else ((gI h 9 l0 0).bind fun v6 => f_X9_set_93 h l0 l1 l2 s0 v6 l0)
noncomputable def f_X9_set_43 (h : XM) (l0 : Option Nat) (l1 : Int32) (l2 : Int32) (s0 : Int32) (s1 : Int32) (s2 : Int32) : Option (Int32 × XM) := (f_X9_in h s2 s1 s0).bind fun q7 => if q7.1 = 0 then (some ((-2 : Int32), q7.2)) else (if l1 = 0 then ((gI q7.2 9 l0 0).bind fun v8 => f_X9_set_79 q7.2 l0 l1 l2 v8) else (if l1 = ((1 : Int32)) then ((gI q7.2 9 l0 1).bind fun v9 => f_X9_set_79 q7.2 l0 l1 l2 v9) else ((gI q7.2 9 l0 2).bind fun v10 => f_X9_set_79 q7.2 l0 l1 l2 v10)))
noncomputable def f_X9_set_21 (h : XM) (l0 : Option Nat) (l1 : Int32) (l2 : Int32) (s0 : Int32) (s1 : Int32) : Option (Int32 × XM) := if l1 = 0 then (f_X9_set_43 h l0 l1 l2 ((20 : Int32)) s0 s1) else (if l1 = ((1 : Int32)) then (f_X9_set_43 h l0 l1 l2 ((9999 : Int32)) s0 s1) else (f_X9_set_43 h l0 l1 l2 ((99 : Int32)) s0 s1))
noncomputable def f_X9_set (h : XM) (a0 : Option Nat) (a1 : Int32) (a2 : Int32) : Option (Int32 × XM) := (f_X9_in h a1 ((0 : Int32)) ((2 : Int32))).bind fun q11 => if q11.1 = 0 then (some ((-1 : Int32), q11.2)) else (if a1 = 0 then (f_X9_set_21 q11.2 a0 a1 a2 ((2 : Int32)) a2) else (f_X9_set_21 q11.2 a0 a1 a2 ((0 : Int32)) a2))
theorem b_X9_set_127 (X : XX) (h : XM) (l3 : Int32) (s0 : Int32) (s1 : Option Nat) : SW X I_X9_set ρi 127 [(3, tI l3)] [tI s0, tA s1] h 0 0 (f_X9_set_127 h l3 s0 s1) := by
  unfold f_X9_set_127
  refine s_putI (i := 66) rfl xf_9_116 (fun q => by cases q) rfl rfl (fun h1 => ?_)
  refine s_iload_n (i := 67) rfl 0 rfl ?_
  exact s_iret (i := 68) rfl rfl
theorem b_X9_set_110 (X : XX) (h : XM) (l0 : Option Nat) (l1 : Int32) (l2 : Int32) (l3 : Int32) (s0 : Int32) (s1 : Option Nat) : SW X I_X9_set ρi 110 [(0, tA l0), (1, tI l1), (2, tI l2), (3, tI l3)] [tI s0, tA s1] h 0 0 (f_X9_set_110 h l0 l1 l2 l3 s0 s1) := by
  unfold f_X9_set_110
  refine s_putI (i := 57) rfl xf_9_113 (fun q => by cases q) rfl rfl (fun h2 => ?_)
  refine s_aload_n (i := 58) rfl 0 rfl ?_
  refine s_iload_n (i := 59) rfl 1 rfl ?_
  refine s_iconst (i := 60) rfl (v := (2 : Int32)) (by decide) ?_
  refine s_icmpne (i := 61) rfl (tgt := 123) (by decide) (fun z116 => ?_) (fun z116 => ?_)
  · refine s_iload_n (i := 62) rfl 2 rfl ?_
    refine s_goto (i := 63) rfl (tgt := 127) (by decide) ?_
    exact s_sub [3] rfl (b_X9_set_127 X h2 l3 l2 l0)
  · refine s_aload_n (i := 64) rfl 0 rfl ?_
    refine s_getI (i := 65) rfl xf_9_116.r rfl (fun v3 => ?_)
    exact s_sub [3] rfl (b_X9_set_127 X h2 l3 v3 l0)
theorem b_X9_set_93 (X : XX) (h : XM) (l0 : Option Nat) (l1 : Int32) (l2 : Int32) (l3 : Int32) (s0 : Int32) (s1 : Option Nat) : SW X I_X9_set ρi 93 [(0, tA l0), (1, tI l1), (2, tI l2), (3, tI l3)] [tI s0, tA s1] h 0 0 (f_X9_set_93 h l0 l1 l2 l3 s0 s1) := by
  unfold f_X9_set_93
  refine s_putI (i := 48) rfl xf_9_7 (fun q => by cases q) rfl rfl (fun h4 => ?_)
  refine s_aload_n (i := 49) rfl 0 rfl ?_
  refine s_iload_n (i := 50) rfl 1 rfl ?_
  refine s_iconst (i := 51) rfl (v := (1 : Int32)) (by decide) ?_
  refine s_icmpne (i := 52) rfl (tgt := 106) (by decide) (fun z99 => ?_) (fun z99 => ?_)
  · refine s_iload_n (i := 53) rfl 2 rfl ?_
    refine s_goto (i := 54) rfl (tgt := 110) (by decide) ?_
    exact s_sub [0, 1, 2, 3] rfl (b_X9_set_110 X h4 l0 l1 l2 l3 l2 l0)
  · refine s_aload_n (i := 55) rfl 0 rfl ?_
    refine s_getI (i := 56) rfl xf_9_113.r rfl (fun v5 => ?_)
    exact s_sub [0, 1, 2, 3] rfl (b_X9_set_110 X h4 l0 l1 l2 l3 v5 l0)
theorem b_X9_set_79 (X : XX) (h : XM) (l0 : Option Nat) (l1 : Int32) (l2 : Int32) (s0 : Int32) : SW X I_X9_set ρi 79 [(0, tA l0), (1, tI l1), (2, tI l2)] [tI s0] h 0 0 (f_X9_set_79 h l0 l1 l2 s0) := by
  unfold f_X9_set_79
  refine s_istore_n (i := 40) rfl (Nat.le_of_ble_eq_true rfl) (ls2 := [(3, tI s0), (0, tA l0), (1, tI l1), (2, tI l2)]) rfl ?_
  refine s_aload_n (i := 41) rfl 1 rfl ?_
  refine s_iload_n (i := 42) rfl 2 rfl ?_
  refine s_ifne (i := 43) rfl (tgt := 89) (by decide) (fun z82 => ?_) (fun z82 => ?_)
  · refine s_iload_n (i := 44) rfl 3 rfl ?_
    refine s_goto (i := 45) rfl (tgt := 93) (by decide) ?_
    exact s_sub [1, 2, 3, 0] rfl (b_X9_set_93 X h l0 l1 l2 s0 l2 l0)
  · refine s_aload_n (i := 46) rfl 1 rfl ?_
    refine s_getI (i := 47) rfl xf_9_7.r rfl (fun v6 => ?_)
    exact s_sub [1, 2, 3, 0] rfl (b_X9_set_93 X h l0 l1 l2 s0 v6 l0)
theorem b_X9_set_43 (X : XX) (h : XM) (l0 : Option Nat) (l1 : Int32) (l2 : Int32) (s0 : Int32) (s1 : Int32) (s2 : Int32) : SW X I_X9_set ρi 43 [(0, tA l0), (1, tI l1), (2, tI l2)] [tI s0, tI s1, tI s2] h 0 0 (f_X9_set_43 h l0 l1 l2 s0 s1 s2) := by
  unfold f_X9_set_43
  refine u_callSi [tI s2, tI s1, tI s0] [] rfl (i := 23) rfl (c_X9_in h s2 s1 s0) xm_X9_in (tw974) rfl (Nat.le_of_ble_eq_true rfl) (xRm.of rfl) ⟨rfl, rfl⟩ (fun q7 => ?_)
  refine s_ifne (i := 24) rfl (tgt := 52) (by decide) (fun z46 => ?_) (fun z46 => ?_)
  · refine s_bipush (i := 25) rfl (v := (-2 : Int32)) (by decide) ?_
    exact s_iret (i := 26) rfl rfl
  · refine s_iload_n (i := 27) rfl 1 rfl ?_
    refine s_ifne (i := 28) rfl (tgt := 63) (by decide) (fun z53 => ?_) (fun z53 => ?_)
    · refine s_aload_n (i := 29) rfl 0 rfl ?_
      refine s_getI (i := 30) rfl xf_9_7.r rfl (fun v8 => ?_)
      refine s_goto (i := 31) rfl (tgt := 79) (by decide) ?_
      exact s_sub [0, 1, 2] rfl (b_X9_set_79 X q7.2 l0 l1 l2 v8)
    · refine s_iload_n (i := 32) rfl 1 rfl ?_
      refine s_iconst (i := 33) rfl (v := (1 : Int32)) (by decide) ?_
      refine s_icmpne (i := 34) rfl (tgt := 75) (by decide) (fun z65 => ?_) (fun z65 => ?_)
      · refine s_aload_n (i := 35) rfl 0 rfl ?_
        refine s_getI (i := 36) rfl xf_9_113.r rfl (fun v9 => ?_)
        refine s_goto (i := 37) rfl (tgt := 79) (by decide) ?_
        exact s_sub [0, 1, 2] rfl (b_X9_set_79 X q7.2 l0 l1 l2 v9)
      · refine s_aload_n (i := 38) rfl 0 rfl ?_
        refine s_getI (i := 39) rfl xf_9_116.r rfl (fun v10 => ?_)
        exact s_sub [0, 1, 2] rfl (b_X9_set_79 X q7.2 l0 l1 l2 v10)
theorem b_X9_set_21 (X : XX) (h : XM) (l0 : Option Nat) (l1 : Int32) (l2 : Int32) (s0 : Int32) (s1 : Int32) : SW X I_X9_set ρi 21 [(0, tA l0), (1, tI l1), (2, tI l2)] [tI s0, tI s1] h 0 0 (f_X9_set_21 h l0 l1 l2 s0 s1) := by
  unfold f_X9_set_21
  refine s_iload_n (i := 13) rfl 1 rfl ?_
  refine s_ifne (i := 14) rfl (tgt := 30) (by decide) (fun z22 => ?_) (fun z22 => ?_)
  · refine s_bipush (i := 15) rfl (v := (20 : Int32)) (by decide) ?_
    refine s_goto (i := 16) rfl (tgt := 43) (by decide) ?_
    exact s_sub [0, 1, 2] rfl (b_X9_set_43 X h l0 l1 l2 ((20 : Int32)) s0 s1)
  · refine s_iload_n (i := 17) rfl 1 rfl ?_
    refine s_iconst (i := 18) rfl (v := (1 : Int32)) (by decide) ?_
    refine s_icmpne (i := 19) rfl (tgt := 41) (by decide) (fun z32 => ?_) (fun z32 => ?_)
    · refine s_sipush (i := 20) rfl (v := (9999 : Int32)) (by decide) ?_
      refine s_goto (i := 21) rfl (tgt := 43) (by decide) ?_
      exact s_sub [0, 1, 2] rfl (b_X9_set_43 X h l0 l1 l2 ((9999 : Int32)) s0 s1)
    · refine s_bipush (i := 22) rfl (v := (99 : Int32)) (by decide) ?_
      exact s_sub [0, 1, 2] rfl (b_X9_set_43 X h l0 l1 l2 ((99 : Int32)) s0 s1)
theorem c_X9_set (h : XM) (a0 : Option Nat) (a1 : Int32) (a2 : Int32) : MC I_X9_set y_X9_set [tA a0, tI a1, tI a2] h ρi (f_X9_set h a0 a1 a2) := by
  refine MC_of ⟨by decide +kernel, rfl, rfl, Nat.le_of_ble_eq_true rfl⟩ dT_X9_set (fun X => ?_)
  show SW X I_X9_set ρi 0 [(0, tA a0), (1, tI a1), (2, tI a2)] [] h 0 0 (f_X9_set h a0 a1 a2)
  unfold f_X9_set
  refine s_iload_n (i := 0) rfl 1 rfl ?_
  refine s_iconst (i := 1) rfl (v := (0 : Int32)) (by decide) ?_
  refine s_iconst (i := 2) rfl (v := (2 : Int32)) (by decide) ?_
  refine u_callSi [tI a1, tI ((0 : Int32)), tI ((2 : Int32))] [] rfl (i := 3) rfl (c_X9_in h a1 ((0 : Int32)) ((2 : Int32))) xm_X9_in (tw974) rfl (Nat.le_of_ble_eq_true rfl) (xRm.of rfl) ⟨rfl, rfl⟩ (fun q11 => ?_)
  refine s_ifne (i := 4) rfl (tgt := 11) (by decide) (fun z6 => ?_) (fun z6 => ?_)
  · refine s_iconst (i := 5) rfl (v := (-1 : Int32)) (by decide) ?_
    exact s_iret (i := 6) rfl rfl
  · refine s_iload_n (i := 7) rfl 2 rfl ?_
    refine s_iload_n (i := 8) rfl 1 rfl ?_
    refine s_ifne (i := 9) rfl (tgt := 20) (by decide) (fun z13 => ?_) (fun z13 => ?_)
    · refine s_iconst (i := 10) rfl (v := (2 : Int32)) (by decide) ?_
      refine s_goto (i := 11) rfl (tgt := 21) (by decide) ?_
      exact s_sub [0, 1, 2] rfl (b_X9_set_21 X q11.2 a0 a1 a2 ((2 : Int32)) a2)
    · refine s_iconst (i := 12) rfl (v := (0 : Int32)) (by decide) ?_
      exact s_sub [0, 1, 2] rfl (b_X9_set_21 X q11.2 a0 a1 a2 ((0 : Int32)) a2)
def y_X9_come : MethodName := ⟨"OpensAtNineModel", "come", "()I"⟩
def T_X9_come : List (Nat × Instr × Nat × Nat) := [(0, .aload_n 0, 1, 1), (1, .getfield 97, 3, 4), (4, .iconst 4, 1, 5), (5, .if_icmp .ne 6, 3, 8), (8, .bipush (-4), 2, 10), (10, .ireturn, 1, 11), (11, .aload_n 0, 1, 12), (12, .dup, 1, 13), (13, .getfield 107, 3, 16), (16, .iconst 1, 1, 17), (17, .aload_n 0, 1, 18), (18, .getfield 97, 3, 21), (21, .ishl, 1, 22), (22, .iconst (-1), 1, 23), (23, .ixor, 1, 24), (24, .iand, 1, 25), (25, .putfield 107, 3, 28), (28, .aload_n 0, 1, 29), (29, .dup, 1, 30), (30, .getfield 97, 3, 33), (33, .iconst 1, 1, 34), (34, .iadd, 1, 35), (35, .putfield 97, 3, 38), (38, .aload_n 0, 1, 39), (39, .getfield 97, 3, 42), (42, .iconst 1, 1, 43), (43, .isub, 1, 44), (44, .ireturn, 1, 45)]
def I_X9_come : MI := (prog_11_method_11_code, 1, (some .int), "OpensAtNineModel", "come", T_X9_come, 0, 0, 1, 60)
theorem dT_X9_come : ∀ q ∈ T_X9_come, decode prog_11_method_11_code q.1 = .ok (q.2.1, q.2.2.1) ∧ q.2.2.2 = q.1 + q.2.2.1 := by decide +kernel
theorem xm_X9_come : xCM y_X9_come I_X9_come 9 0 := ⟨⟨tw1167, tw1168⟩, tw84, tw1169, ⟨xT9, 49, rfl⟩, ⟨by decide +kernel, by decide +kernel, by decide +kernel⟩⟩
noncomputable def f_X9_come (h : XM) (a0 : Option Nat) : Option (Int32 × XM) := (gI h 9 a0 3).bind fun v1 => if v1 = ((4 : Int32)) then (some ((-4 : Int32), h)) else ((gI h 9 a0 4).bind fun v2 => (gI h 9 a0 3).bind fun v3 => (pI h 9 a0 4 (v2 &&& ((((1 : Int32)) <<< (v3 &&& 31)) ^^^ ((-1 : Int32))))).bind fun h4 => (gI h4 9 a0 3).bind fun v5 => (pI h4 9 a0 3 (v5 + ((1 : Int32)))).bind fun h6 => (gI h6 9 a0 3).bind fun v7 => some (v7 - ((1 : Int32)), h6))
theorem c_X9_come (h : XM) (a0 : Option Nat) : MC I_X9_come y_X9_come [tA a0] h ρi (f_X9_come h a0) := by
  refine MC_of ⟨by decide +kernel, rfl, rfl, Nat.le_of_ble_eq_true rfl⟩ dT_X9_come (fun X => ?_)
  show SW X I_X9_come ρi 0 [(0, tA a0)] [] h 0 0 (f_X9_come h a0)
  unfold f_X9_come
  refine s_aload_n (i := 0) rfl 0 rfl ?_
  refine s_getI (i := 1) rfl xf_9_97.r rfl (fun v1 => ?_)
  refine s_iconst (i := 2) rfl (v := (4 : Int32)) (by decide) ?_
  refine s_icmpne (i := 3) rfl (tgt := 11) (by decide) (fun z5 => ?_) (fun z5 => ?_)
  · refine s_bipush (i := 4) rfl (v := (-4 : Int32)) (by decide) ?_
    exact s_iret (i := 5) rfl rfl
  · refine s_aload_n (i := 6) rfl 0 rfl ?_
    refine s_dup (i := 7) rfl rfl ?_
    refine s_getI (i := 8) rfl xf_9_107.r rfl (fun v2 => ?_)
    refine s_iconst (i := 9) rfl (v := (1 : Int32)) (by decide) ?_
    refine s_aload_n (i := 10) rfl 0 rfl ?_
    refine s_getI (i := 11) rfl xf_9_97.r rfl (fun v3 => ?_)
    refine s_ishl (i := 12) rfl ?_
    refine s_iconst (i := 13) rfl (v := (-1 : Int32)) (by decide) ?_
    refine s_ixor (i := 14) rfl ?_
    refine s_iand (i := 15) rfl ?_
    refine s_putI (i := 16) rfl xf_9_107 (fun q => by cases q) rfl rfl (fun h4 => ?_)
    refine s_aload_n (i := 17) rfl 0 rfl ?_
    refine s_dup (i := 18) rfl rfl ?_
    refine s_getI (i := 19) rfl xf_9_97.r rfl (fun v5 => ?_)
    refine s_iconst (i := 20) rfl (v := (1 : Int32)) (by decide) ?_
    refine s_iadd (i := 21) rfl ?_
    refine s_putI (i := 22) rfl xf_9_97 (fun q => by cases q) rfl rfl (fun h6 => ?_)
    refine s_aload_n (i := 23) rfl 0 rfl ?_
    refine s_getI (i := 24) rfl xf_9_97.r rfl (fun v7 => ?_)
    refine s_iconst (i := 25) rfl (v := (1 : Int32)) (by decide) ?_
    refine s_isub (i := 26) rfl ?_
    exact s_iret (i := 27) rfl rfl
def y_X9_stand : MethodName := ⟨"OpensAtNineModel", "stand", "(II)I"⟩
def T_X9_stand : List (Nat × Instr × Nat × Nat) := [(0, .aload_n 0, 1, 1), (1, .iload_n 1, 1, 2), (2, .invokevirtual 119, 3, 5), (5, .ifCond .ne 6, 3, 8), (8, .bipush (-5), 2, 10), (10, .ireturn, 1, 11), (11, .iload_n 2, 1, 12), (12, .iconst 0, 1, 13), (13, .iconst 1, 1, 14), (14, .invokestatic 100, 3, 17), (17, .ifCond .ne 6, 3, 20), (20, .bipush (-7), 2, 22), (22, .ireturn, 1, 23), (23, .aload_n 0, 1, 24), (24, .getfield 107, 3, 27), (27, .iload_n 1, 1, 28), (28, .ishr, 1, 29), (29, .iconst 1, 1, 30), (30, .iand, 1, 31), (31, .istore_n 3, 1, 32), (32, .aload_n 0, 1, 33), (33, .iload_n 2, 1, 34), (34, .iconst 1, 1, 35), (35, .if_icmp .ne 14, 3, 38), (38, .aload_n 0, 1, 39), (39, .getfield 107, 3, 42), (42, .iconst 1, 1, 43), (43, .iload_n 1, 1, 44), (44, .ishl, 1, 45), (45, .ior, 1, 46), (46, .goto 13, 3, 49), (49, .aload_n 0, 1, 50), (50, .getfield 107, 3, 53), (53, .iconst 1, 1, 54), (54, .iload_n 1, 1, 55), (55, .ishl, 1, 56), (56, .iconst (-1), 1, 57), (57, .ixor, 1, 58), (58, .iand, 1, 59), (59, .putfield 107, 3, 62), (62, .iload_n 3, 1, 63), (63, .ireturn, 1, 64)]
def I_X9_stand : MI := (prog_11_method_12_code, 4, (some .int), "OpensAtNineModel", "stand", T_X9_stand, 0, 0, 3, 103)
theorem dT_X9_stand : ∀ q ∈ T_X9_stand, decode prog_11_method_12_code q.1 = .ok (q.2.1, q.2.2.1) ∧ q.2.2.2 = q.1 + q.2.2.1 := by decide +kernel
theorem xm_X9_stand : xCM y_X9_stand I_X9_stand 9 2 := ⟨⟨tw1171, tw1172⟩, tw84, tw1173, ⟨xT9, 49, rfl⟩, ⟨by decide +kernel, by decide +kernel, by decide +kernel⟩⟩
noncomputable def f_X9_stand_59 (h : XM) (l3 : Int32) (s0 : Int32) (s1 : Option Nat) : Option (Int32 × XM) := (pI h 9 s1 4 s0).bind fun h1 => some (l3, h1)
noncomputable def f_X9_stand (h : XM) (a0 : Option Nat) (a1 : Int32) (a2 : Int32) : Option (Int32 × XM) := (vc h 9 a0 (f_X9_isOne h a0 a1)).bind fun q2 => if q2.1 = 0 then (some ((-5 : Int32), q2.2)) else ((f_X9_in q2.2 a2 ((0 : Int32)) ((1 : Int32))).bind fun q3 => if q3.1 = 0 then (some ((-7 : Int32), q3.2)) else ((gI q3.2 9 a0 4).bind fun v4 => bnd ((v4 >>> (a1 &&& 31)) &&& ((1 : Int32))) fun v5 => if a2 = ((1 : Int32)) then ((gI q3.2 9 a0 4).bind fun v6 => f_X9_stand_59 q3.2 v5 (v6 ||| (((1 : Int32)) <<< (a1 &&& 31))) a0) else ((gI q3.2 9 a0 4).bind fun v7 => f_X9_stand_59 q3.2 v5 (v7 &&& ((((1 : Int32)) <<< (a1 &&& 31)) ^^^ ((-1 : Int32)))) a0)))
theorem b_X9_stand_59 (X : XX) (h : XM) (l3 : Int32) (s0 : Int32) (s1 : Option Nat) : SW X I_X9_stand ρi 59 [(3, tI l3)] [tI s0, tA s1] h 0 0 (f_X9_stand_59 h l3 s0 s1) := by
  unfold f_X9_stand_59
  refine s_putI (i := 39) rfl xf_9_107 (fun q => by cases q) rfl rfl (fun h1 => ?_)
  refine s_iload_n (i := 40) rfl 0 rfl ?_
  exact s_iret (i := 41) rfl rfl
theorem c_X9_stand (h : XM) (a0 : Option Nat) (a1 : Int32) (a2 : Int32) : MC I_X9_stand y_X9_stand [tA a0, tI a1, tI a2] h ρi (f_X9_stand h a0 a1 a2) := by
  refine MC_of ⟨by decide +kernel, rfl, rfl, Nat.le_of_ble_eq_true rfl⟩ dT_X9_stand (fun X => ?_)
  show SW X I_X9_stand ρi 0 [(0, tA a0), (1, tI a1), (2, tI a2)] [] h 0 0 (f_X9_stand h a0 a1 a2)
  unfold f_X9_stand
  refine s_aload_n (i := 0) rfl 0 rfl ?_
  refine s_iload_n (i := 1) rfl 1 rfl ?_
  refine u_callVi (kk := 9) [tI a1] a0 [] rfl (i := 2) rfl (c_X9_isOne h a0 a1) xm_X9_isOne (tw1174) rfl (Nat.le_of_ble_eq_true rfl) (xRm.of rfl) ⟨rfl, rfl⟩ (fun q2 => ?_)
  refine s_ifne (i := 3) rfl (tgt := 11) (by decide) (fun z5 => ?_) (fun z5 => ?_)
  · refine s_bipush (i := 4) rfl (v := (-5 : Int32)) (by decide) ?_
    exact s_iret (i := 5) rfl rfl
  · refine s_iload_n (i := 6) rfl 2 rfl ?_
    refine s_iconst (i := 7) rfl (v := (0 : Int32)) (by decide) ?_
    refine s_iconst (i := 8) rfl (v := (1 : Int32)) (by decide) ?_
    refine u_callSi [tI a2, tI ((0 : Int32)), tI ((1 : Int32))] [] rfl (i := 9) rfl (c_X9_in q2.2 a2 ((0 : Int32)) ((1 : Int32))) xm_X9_in (tw974) rfl (Nat.le_of_ble_eq_true rfl) (xRm.of rfl) ⟨rfl, rfl⟩ (fun q3 => ?_)
    refine s_ifne (i := 10) rfl (tgt := 23) (by decide) (fun z17 => ?_) (fun z17 => ?_)
    · refine s_bipush (i := 11) rfl (v := (-7 : Int32)) (by decide) ?_
      exact s_iret (i := 12) rfl rfl
    · refine s_aload_n (i := 13) rfl 0 rfl ?_
      refine s_getI (i := 14) rfl xf_9_107.r rfl (fun v4 => ?_)
      refine s_iload_n (i := 15) rfl 1 rfl ?_
      refine s_ishr (i := 16) rfl ?_
      refine s_iconst (i := 17) rfl (v := (1 : Int32)) (by decide) ?_
      refine s_iand (i := 18) rfl ?_
      refine s_bnd (fun v5 => ?_)
      refine s_istore_n (i := 19) rfl (Nat.le_of_ble_eq_true rfl) (ls2 := [(3, tI v5), (0, tA a0), (1, tI a1), (2, tI a2)]) rfl ?_
      refine s_aload_n (i := 20) rfl 1 rfl ?_
      refine s_iload_n (i := 21) rfl 3 rfl ?_
      refine s_iconst (i := 22) rfl (v := (1 : Int32)) (by decide) ?_
      refine s_icmpne (i := 23) rfl (tgt := 49) (by decide) (fun z35 => ?_) (fun z35 => ?_)
      · refine s_aload_n (i := 24) rfl 1 rfl ?_
        refine s_getI (i := 25) rfl xf_9_107.r rfl (fun v6 => ?_)
        refine s_iconst (i := 26) rfl (v := (1 : Int32)) (by decide) ?_
        refine s_iload_n (i := 27) rfl 2 rfl ?_
        refine s_ishl (i := 28) rfl ?_
        refine s_ior (i := 29) rfl ?_
        refine s_goto (i := 30) rfl (tgt := 59) (by decide) ?_
        exact s_sub [0] rfl (b_X9_stand_59 X q3.2 v5 (v6 ||| (((1 : Int32)) <<< (a1 &&& 31))) a0)
      · refine s_aload_n (i := 31) rfl 1 rfl ?_
        refine s_getI (i := 32) rfl xf_9_107.r rfl (fun v7 => ?_)
        refine s_iconst (i := 33) rfl (v := (1 : Int32)) (by decide) ?_
        refine s_iload_n (i := 34) rfl 2 rfl ?_
        refine s_ishl (i := 35) rfl ?_
        refine s_iconst (i := 36) rfl (v := (-1 : Int32)) (by decide) ?_
        refine s_ixor (i := 37) rfl ?_
        refine s_iand (i := 38) rfl ?_
        exact s_sub [0] rfl (b_X9_stand_59 X q3.2 v5 (v7 &&& ((((1 : Int32)) <<< (a1 &&& 31)) ^^^ ((-1 : Int32)))) a0)
def y_X9_count : MethodName := ⟨"OpensAtNineModel", "count", "(I)I"⟩
def T_X9_count : List (Nat × Instr × Nat × Nat) := [(0, .iload_n 1, 1, 1), (1, .tableswitch 96 0 8 #[51, 56, 61, 66, 71, 76, 81, 86, 91], 51, 52), (52, .aload_n 0, 1, 53), (53, .getfield 7, 3, 56), (56, .ireturn, 1, 57), (57, .aload_n 0, 1, 58), (58, .getfield 113, 3, 61), (61, .ireturn, 1, 62), (62, .aload_n 0, 1, 63), (63, .getfield 116, 3, 66), (66, .ireturn, 1, 67), (67, .aload_n 0, 1, 68), (68, .getfield 97, 3, 71), (71, .ireturn, 1, 72), (72, .aload_n 0, 1, 73), (73, .getfield 107, 3, 76), (76, .ireturn, 1, 77), (77, .aload_n 0, 1, 78), (78, .getfield 104, 3, 81), (81, .ireturn, 1, 82), (82, .aload_n 0, 1, 83), (83, .getfield 123, 3, 86), (86, .ireturn, 1, 87), (87, .aload_n 0, 1, 88), (88, .getfield 126, 3, 91), (91, .ireturn, 1, 92), (92, .aload_n 0, 1, 93), (93, .getfield 90, 3, 96), (96, .ireturn, 1, 97), (97, .bipush (-2), 2, 99), (99, .ireturn, 1, 100)]
def I_X9_count : MI := (prog_11_method_13_code, 2, (some .int), "OpensAtNineModel", "count", T_X9_count, 0, 0, 1, 60)
theorem dT_X9_count : ∀ q ∈ T_X9_count, decode prog_11_method_13_code q.1 = .ok (q.2.1, q.2.2.1) ∧ q.2.2.2 = q.1 + q.2.2.1 := by decide +kernel
theorem xm_X9_count : xCM y_X9_count I_X9_count 9 1 := ⟨⟨tw1179, tw1180⟩, tw84, tw1181, ⟨xT9, 49, rfl⟩, ⟨by decide +kernel, by decide +kernel, by decide +kernel⟩⟩
noncomputable def f_X9_count (h : XM) (a0 : Option Nat) (a1 : Int32) : Option (Int32 × XM) := if a1 = (0 : Int32) then ((gI h 9 a0 0).bind fun v1 => some (v1, h)) else (if a1 = (1 : Int32) then ((gI h 9 a0 1).bind fun v2 => some (v2, h)) else (if a1 = (2 : Int32) then ((gI h 9 a0 2).bind fun v3 => some (v3, h)) else (if a1 = (3 : Int32) then ((gI h 9 a0 3).bind fun v4 => some (v4, h)) else (if a1 = (4 : Int32) then ((gI h 9 a0 4).bind fun v5 => some (v5, h)) else (if a1 = (5 : Int32) then ((gI h 9 a0 5).bind fun v6 => some (v6, h)) else (if a1 = (6 : Int32) then ((gI h 9 a0 15).bind fun v7 => some (v7, h)) else (if a1 = (7 : Int32) then ((gI h 9 a0 16).bind fun v8 => some (v8, h)) else (if a1 = (8 : Int32) then ((gI h 9 a0 12).bind fun v9 => some (v9, h)) else (some ((-2 : Int32), h))))))))))
theorem c_X9_count (h : XM) (a0 : Option Nat) (a1 : Int32) : MC I_X9_count y_X9_count [tA a0, tI a1] h ρi (f_X9_count h a0 a1) := by
  refine MC_of ⟨by decide +kernel, rfl, rfl, Nat.le_of_ble_eq_true rfl⟩ dT_X9_count (fun X => ?_)
  show SW X I_X9_count ρi 0 [(0, tA a0), (1, tI a1)] [] h 0 0 (f_X9_count h a0 a1)
  unfold f_X9_count
  refine s_iload_n (i := 0) rfl 1 rfl ?_
  refine s_if (P := a1 = (0 : Int32)) (fun z1_0 => ?_) (fun z1_0 => ?_)
  · refine s_table 52 (i := 1) rfl rfl (by rw [z1_0]; rfl) ?_
    refine s_aload_n (i := 2) rfl 0 rfl ?_
    refine s_getI (i := 3) rfl xf_9_7.r rfl (fun v1 => ?_)
    exact s_iret (i := 4) rfl rfl
  refine s_if (P := a1 = (1 : Int32)) (fun z1_1 => ?_) (fun z1_1 => ?_)
  · refine s_table 57 (i := 1) rfl rfl (by rw [z1_1]; rfl) ?_
    refine s_aload_n (i := 5) rfl 0 rfl ?_
    refine s_getI (i := 6) rfl xf_9_113.r rfl (fun v2 => ?_)
    exact s_iret (i := 7) rfl rfl
  refine s_if (P := a1 = (2 : Int32)) (fun z1_2 => ?_) (fun z1_2 => ?_)
  · refine s_table 62 (i := 1) rfl rfl (by rw [z1_2]; rfl) ?_
    refine s_aload_n (i := 8) rfl 0 rfl ?_
    refine s_getI (i := 9) rfl xf_9_116.r rfl (fun v3 => ?_)
    exact s_iret (i := 10) rfl rfl
  refine s_if (P := a1 = (3 : Int32)) (fun z1_3 => ?_) (fun z1_3 => ?_)
  · refine s_table 67 (i := 1) rfl rfl (by rw [z1_3]; rfl) ?_
    refine s_aload_n (i := 11) rfl 0 rfl ?_
    refine s_getI (i := 12) rfl xf_9_97.r rfl (fun v4 => ?_)
    exact s_iret (i := 13) rfl rfl
  refine s_if (P := a1 = (4 : Int32)) (fun z1_4 => ?_) (fun z1_4 => ?_)
  · refine s_table 72 (i := 1) rfl rfl (by rw [z1_4]; rfl) ?_
    refine s_aload_n (i := 14) rfl 0 rfl ?_
    refine s_getI (i := 15) rfl xf_9_107.r rfl (fun v5 => ?_)
    exact s_iret (i := 16) rfl rfl
  refine s_if (P := a1 = (5 : Int32)) (fun z1_5 => ?_) (fun z1_5 => ?_)
  · refine s_table 77 (i := 1) rfl rfl (by rw [z1_5]; rfl) ?_
    refine s_aload_n (i := 17) rfl 0 rfl ?_
    refine s_getI (i := 18) rfl xf_9_104.r rfl (fun v6 => ?_)
    exact s_iret (i := 19) rfl rfl
  refine s_if (P := a1 = (6 : Int32)) (fun z1_6 => ?_) (fun z1_6 => ?_)
  · refine s_table 82 (i := 1) rfl rfl (by rw [z1_6]; rfl) ?_
    refine s_aload_n (i := 20) rfl 0 rfl ?_
    refine s_getI (i := 21) rfl xf_9_123.r rfl (fun v7 => ?_)
    exact s_iret (i := 22) rfl rfl
  refine s_if (P := a1 = (7 : Int32)) (fun z1_7 => ?_) (fun z1_7 => ?_)
  · refine s_table 87 (i := 1) rfl rfl (by rw [z1_7]; rfl) ?_
    refine s_aload_n (i := 23) rfl 0 rfl ?_
    refine s_getI (i := 24) rfl xf_9_126.r rfl (fun v8 => ?_)
    exact s_iret (i := 25) rfl rfl
  refine s_if (P := a1 = (8 : Int32)) (fun z1_8 => ?_) (fun z1_8 => ?_)
  · refine s_table 92 (i := 1) rfl rfl (by rw [z1_8]; rfl) ?_
    refine s_aload_n (i := 26) rfl 0 rfl ?_
    refine s_getI (i := 27) rfl xf_9_90.r rfl (fun v9 => ?_)
    exact s_iret (i := 28) rfl rfl
  refine s_table 97 (i := 1) rfl rfl (by
    rw [swT_out (fun k h1 h2 => by
      rcases (show k = 0 ∨ k = 1 ∨ k = 2 ∨ k = 3 ∨ k = 4 ∨ k = 5 ∨ k = 6 ∨ k = 7 ∨ k = 8 by omega) with e | e | e | e | e | e | e | e | e <;> subst e
      · exact Or.inr z1_0
      · exact Or.inr z1_1
      · exact Or.inr z1_2
      · exact Or.inr z1_3
      · exact Or.inr z1_4
      · exact Or.inr z1_5
      · exact Or.inr z1_6
      · exact Or.inr z1_7
      · exact Or.inr z1_8)]
    rfl) ?_
  refine s_bipush (i := 29) rfl (v := (-2 : Int32)) (by decide) ?_
  exact s_iret (i := 30) rfl rfl
