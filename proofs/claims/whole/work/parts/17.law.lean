/-! 17.law: the methods as functions, and that the bytecode does so (written by wip/whole/gen/gen_parts.py) -/
def y_L_law : MethodName := ⟨"OpensAtNineLaw", "law", "([I)Z"⟩
def T_L_law_0 : List (Nat × Instr × Nat × Nat) := [(0, .new 7, 3, 3), (3, .dup, 1, 4), (4, .invokespecial 9, 3, 7), (7, .astore_n 1, 1, 8), (8, .new 10, 3, 11), (11, .dup, 1, 12), (12, .invokespecial 12, 3, 15), (15, .astore_n 2, 1, 16), (16, .iconst 0, 1, 17), (17, .istore_n 3, 1, 18), (18, .iload_n 3, 1, 19), (19, .aload_n 0, 1, 20), (20, .arraylength, 1, 21), (21, .bipush 7, 2, 23), (23, .isub, 1, 24), (24, .if_icmp .gt 1305, 3, 27), (27, .aload_n 0, 1, 28), (28, .iload_n 3, 1, 29), (29, .iaload, 1, 30), (30, .bipush 63, 2, 32), (32, .iand, 1, 33), (33, .tableswitch 1290 0 35 #[159, 192, 205, 238, 261, 336, 349, 372, 435, 488, 521, 554, 577, 600, 633, 666, 689, 702, 715, 748, 771, 794, 827, 870, 893, 916, 939, 962, 985, 1029, 1042, 1055, 1098, 1141, 1204, 1257], 159, 192), (192, .aload_n 1, 1, 193), (193, .aload_n 0, 1, 194), (194, .iload_n 3, 1, 195), (195, .iconst 1, 1, 196), (196, .iadd, 1, 197), (197, .iaload, 1, 198), (198, .aload_n 0, 1, 199), (199, .iload_n 3, 1, 200), (200, .iconst 2, 1, 201), (201, .iadd, 1, 202), (202, .iaload, 1, 203), (203, .invokevirtual 13, 3, 206), (206, .aload_n 2, 1, 207), (207, .aload_n 0, 1, 208), (208, .iload_n 3, 1, 209), (209, .iconst 1, 1, 210), (210, .iadd, 1, 211), (211, .iaload, 1, 212)]
def T_L_law_1 : List (Nat × Instr × Nat × Nat) := [(212, .aload_n 0, 1, 213), (213, .iload_n 3, 1, 214), (214, .iconst 2, 1, 215), (215, .iadd, 1, 216), (216, .iaload, 1, 217), (217, .invokevirtual 17, 3, 220), (220, .if_icmp .eq 1103, 3, 223), (223, .iconst 0, 1, 224), (224, .ireturn, 1, 225), (225, .aload_n 1, 1, 226), (226, .invokevirtual 18, 3, 229), (229, .aload_n 2, 1, 230), (230, .invokevirtual 22, 3, 233), (233, .if_icmp .eq 1090, 3, 236), (236, .iconst 0, 1, 237), (237, .ireturn, 1, 238), (238, .aload_n 1, 1, 239), (239, .aload_n 0, 1, 240), (240, .iload_n 3, 1, 241), (241, .iconst 1, 1, 242), (242, .iadd, 1, 243), (243, .iaload, 1, 244), (244, .aload_n 0, 1, 245), (245, .iload_n 3, 1, 246), (246, .iconst 2, 1, 247), (247, .iadd, 1, 248), (248, .iaload, 1, 249), (249, .invokevirtual 23, 3, 252), (252, .aload_n 2, 1, 253), (253, .aload_n 0, 1, 254), (254, .iload_n 3, 1, 255), (255, .iconst 1, 1, 256), (256, .iadd, 1, 257), (257, .iaload, 1, 258), (258, .aload_n 0, 1, 259), (259, .iload_n 3, 1, 260), (260, .iconst 2, 1, 261), (261, .iadd, 1, 262), (262, .iaload, 1, 263), (263, .invokevirtual 26, 3, 266)]
def T_L_law_2 : List (Nat × Instr × Nat × Nat) := [(266, .if_icmp .eq 1057, 3, 269), (269, .iconst 0, 1, 270), (270, .ireturn, 1, 271), (271, .aload_n 1, 1, 272), (272, .aload_n 0, 1, 273), (273, .iload_n 3, 1, 274), (274, .iconst 1, 1, 275), (275, .iadd, 1, 276), (276, .iaload, 1, 277), (277, .invokevirtual 27, 3, 280), (280, .aload_n 2, 1, 281), (281, .aload_n 0, 1, 282), (282, .iload_n 3, 1, 283), (283, .iconst 1, 1, 284), (284, .iadd, 1, 285), (285, .iaload, 1, 286), (286, .invokevirtual 31, 3, 289), (289, .if_icmp .eq 1034, 3, 292), (292, .iconst 0, 1, 293), (293, .ireturn, 1, 294), (294, .aload_n 1, 1, 295), (295, .aload_n 0, 1, 296), (296, .iload_n 3, 1, 297), (297, .iconst 1, 1, 298), (298, .iadd, 1, 299), (299, .iaload, 1, 300), (300, .aload_n 0, 1, 301), (301, .iload_n 3, 1, 302), (302, .iconst 2, 1, 303), (303, .iadd, 1, 304), (304, .iaload, 1, 305), (305, .aload_n 0, 1, 306), (306, .iload_n 3, 1, 307), (307, .iconst 3, 1, 308), (308, .iadd, 1, 309), (309, .iaload, 1, 310), (310, .aload_n 0, 1, 311), (311, .iload_n 3, 1, 312), (312, .iconst 4, 1, 313), (313, .iadd, 1, 314)]
def T_L_law_3 : List (Nat × Instr × Nat × Nat) := [(314, .iaload, 1, 315), (315, .aload_n 0, 1, 316), (316, .iload_n 3, 1, 317), (317, .iconst 5, 1, 318), (318, .iadd, 1, 319), (319, .iaload, 1, 320), (320, .aload_n 0, 1, 321), (321, .iload_n 3, 1, 322), (322, .bipush 6, 2, 324), (324, .iadd, 1, 325), (325, .iaload, 1, 326), (326, .invokevirtual 32, 3, 329), (329, .aload_n 2, 1, 330), (330, .aload_n 0, 1, 331), (331, .iload_n 3, 1, 332), (332, .iconst 1, 1, 333), (333, .iadd, 1, 334), (334, .iaload, 1, 335), (335, .aload_n 0, 1, 336), (336, .iload_n 3, 1, 337), (337, .iconst 2, 1, 338), (338, .iadd, 1, 339), (339, .iaload, 1, 340), (340, .aload_n 0, 1, 341), (341, .iload_n 3, 1, 342), (342, .iconst 3, 1, 343), (343, .iadd, 1, 344), (344, .iaload, 1, 345), (345, .aload_n 0, 1, 346), (346, .iload_n 3, 1, 347), (347, .iconst 4, 1, 348), (348, .iadd, 1, 349), (349, .iaload, 1, 350), (350, .aload_n 0, 1, 351), (351, .iload_n 3, 1, 352), (352, .iconst 5, 1, 353), (353, .iadd, 1, 354), (354, .iaload, 1, 355), (355, .aload_n 0, 1, 356), (356, .iload_n 3, 1, 357)]
def T_L_law_4 : List (Nat × Instr × Nat × Nat) := [(357, .bipush 6, 2, 359), (359, .iadd, 1, 360), (360, .iaload, 1, 361), (361, .invokevirtual 36, 3, 364), (364, .if_icmp .eq 959, 3, 367), (367, .iconst 0, 1, 368), (368, .ireturn, 1, 369), (369, .aload_n 1, 1, 370), (370, .invokevirtual 37, 3, 373), (373, .aload_n 2, 1, 374), (374, .invokevirtual 40, 3, 377), (377, .if_icmp .eq 946, 3, 380), (380, .iconst 0, 1, 381), (381, .ireturn, 1, 382), (382, .aload_n 1, 1, 383), (383, .aload_n 0, 1, 384), (384, .iload_n 3, 1, 385), (385, .iconst 1, 1, 386), (386, .iadd, 1, 387), (387, .iaload, 1, 388), (388, .invokevirtual 41, 3, 391), (391, .aload_n 2, 1, 392), (392, .aload_n 0, 1, 393), (393, .iload_n 3, 1, 394), (394, .iconst 1, 1, 395), (395, .iadd, 1, 396), (396, .iaload, 1, 397), (397, .invokevirtual 44, 3, 400), (400, .if_icmp .eq 923, 3, 403), (403, .iconst 0, 1, 404), (404, .ireturn, 1, 405), (405, .aload_n 1, 1, 406), (406, .aload_n 0, 1, 407), (407, .iload_n 3, 1, 408), (408, .iconst 1, 1, 409), (409, .iadd, 1, 410), (410, .iaload, 1, 411), (411, .aload_n 0, 1, 412), (412, .iload_n 3, 1, 413), (413, .iconst 2, 1, 414)]
def T_L_law_5 : List (Nat × Instr × Nat × Nat) := [(414, .iadd, 1, 415), (415, .iaload, 1, 416), (416, .aload_n 0, 1, 417), (417, .iload_n 3, 1, 418), (418, .iconst 3, 1, 419), (419, .iadd, 1, 420), (420, .iaload, 1, 421), (421, .aload_n 0, 1, 422), (422, .iload_n 3, 1, 423), (423, .iconst 4, 1, 424), (424, .iadd, 1, 425), (425, .iaload, 1, 426), (426, .aload_n 0, 1, 427), (427, .iload_n 3, 1, 428), (428, .iconst 5, 1, 429), (429, .iadd, 1, 430), (430, .iaload, 1, 431), (431, .invokevirtual 45, 3, 434), (434, .aload_n 2, 1, 435), (435, .aload_n 0, 1, 436), (436, .iload_n 3, 1, 437), (437, .iconst 1, 1, 438), (438, .iadd, 1, 439), (439, .iaload, 1, 440), (440, .aload_n 0, 1, 441), (441, .iload_n 3, 1, 442), (442, .iconst 2, 1, 443), (443, .iadd, 1, 444), (444, .iaload, 1, 445), (445, .aload_n 0, 1, 446), (446, .iload_n 3, 1, 447), (447, .iconst 3, 1, 448), (448, .iadd, 1, 449), (449, .iaload, 1, 450), (450, .aload_n 0, 1, 451), (451, .iload_n 3, 1, 452), (452, .iconst 4, 1, 453), (453, .iadd, 1, 454), (454, .iaload, 1, 455), (455, .aload_n 0, 1, 456)]
def T_L_law_6 : List (Nat × Instr × Nat × Nat) := [(456, .iload_n 3, 1, 457), (457, .iconst 5, 1, 458), (458, .iadd, 1, 459), (459, .iaload, 1, 460), (460, .invokevirtual 49, 3, 463), (463, .if_icmp .eq 860, 3, 466), (466, .iconst 0, 1, 467), (467, .ireturn, 1, 468), (468, .aload_n 1, 1, 469), (469, .aload_n 0, 1, 470), (470, .iload_n 3, 1, 471), (471, .iconst 1, 1, 472), (472, .iadd, 1, 473), (473, .iaload, 1, 474), (474, .aload_n 0, 1, 475), (475, .iload_n 3, 1, 476), (476, .iconst 2, 1, 477), (477, .iadd, 1, 478), (478, .iaload, 1, 479), (479, .aload_n 0, 1, 480), (480, .iload_n 3, 1, 481), (481, .iconst 3, 1, 482), (482, .iadd, 1, 483), (483, .iaload, 1, 484), (484, .aload_n 0, 1, 485), (485, .iload_n 3, 1, 486), (486, .iconst 4, 1, 487), (487, .iadd, 1, 488), (488, .iaload, 1, 489), (489, .invokevirtual 50, 3, 492), (492, .aload_n 2, 1, 493), (493, .aload_n 0, 1, 494), (494, .iload_n 3, 1, 495), (495, .iconst 1, 1, 496), (496, .iadd, 1, 497), (497, .iaload, 1, 498), (498, .aload_n 0, 1, 499), (499, .iload_n 3, 1, 500), (500, .iconst 2, 1, 501), (501, .iadd, 1, 502)]
def T_L_law_7 : List (Nat × Instr × Nat × Nat) := [(502, .iaload, 1, 503), (503, .aload_n 0, 1, 504), (504, .iload_n 3, 1, 505), (505, .iconst 3, 1, 506), (506, .iadd, 1, 507), (507, .iaload, 1, 508), (508, .aload_n 0, 1, 509), (509, .iload_n 3, 1, 510), (510, .iconst 4, 1, 511), (511, .iadd, 1, 512), (512, .iaload, 1, 513), (513, .invokevirtual 54, 3, 516), (516, .if_icmp .eq 807, 3, 519), (519, .iconst 0, 1, 520), (520, .ireturn, 1, 521), (521, .aload_n 1, 1, 522), (522, .aload_n 0, 1, 523), (523, .iload_n 3, 1, 524), (524, .iconst 1, 1, 525), (525, .iadd, 1, 526), (526, .iaload, 1, 527), (527, .aload_n 0, 1, 528), (528, .iload_n 3, 1, 529), (529, .iconst 2, 1, 530), (530, .iadd, 1, 531), (531, .iaload, 1, 532), (532, .invokevirtual 55, 3, 535), (535, .aload_n 2, 1, 536), (536, .aload_n 0, 1, 537), (537, .iload_n 3, 1, 538), (538, .iconst 1, 1, 539), (539, .iadd, 1, 540), (540, .iaload, 1, 541), (541, .aload_n 0, 1, 542), (542, .iload_n 3, 1, 543), (543, .iconst 2, 1, 544), (544, .iadd, 1, 545), (545, .iaload, 1, 546), (546, .invokevirtual 58, 3, 549), (549, .if_icmp .eq 774, 3, 552)]
def T_L_law_8 : List (Nat × Instr × Nat × Nat) := [(552, .iconst 0, 1, 553), (553, .ireturn, 1, 554), (554, .aload_n 1, 1, 555), (555, .aload_n 0, 1, 556), (556, .iload_n 3, 1, 557), (557, .iconst 1, 1, 558), (558, .iadd, 1, 559), (559, .iaload, 1, 560), (560, .aload_n 0, 1, 561), (561, .iload_n 3, 1, 562), (562, .iconst 2, 1, 563), (563, .iadd, 1, 564), (564, .iaload, 1, 565), (565, .invokevirtual 59, 3, 568), (568, .aload_n 2, 1, 569), (569, .aload_n 0, 1, 570), (570, .iload_n 3, 1, 571), (571, .iconst 1, 1, 572), (572, .iadd, 1, 573), (573, .iaload, 1, 574), (574, .aload_n 0, 1, 575), (575, .iload_n 3, 1, 576), (576, .iconst 2, 1, 577), (577, .iadd, 1, 578), (578, .iaload, 1, 579), (579, .invokevirtual 62, 3, 582), (582, .if_icmp .eq 741, 3, 585), (585, .iconst 0, 1, 586), (586, .ireturn, 1, 587), (587, .aload_n 1, 1, 588), (588, .aload_n 0, 1, 589), (589, .iload_n 3, 1, 590), (590, .iconst 1, 1, 591), (591, .iadd, 1, 592), (592, .iaload, 1, 593), (593, .invokevirtual 63, 3, 596), (596, .aload_n 2, 1, 597), (597, .aload_n 0, 1, 598), (598, .iload_n 3, 1, 599), (599, .iconst 1, 1, 600)]
def T_L_law_9 : List (Nat × Instr × Nat × Nat) := [(600, .iadd, 1, 601), (601, .iaload, 1, 602), (602, .invokevirtual 66, 3, 605), (605, .if_icmp .eq 718, 3, 608), (608, .iconst 0, 1, 609), (609, .ireturn, 1, 610), (610, .aload_n 1, 1, 611), (611, .aload_n 0, 1, 612), (612, .iload_n 3, 1, 613), (613, .iconst 1, 1, 614), (614, .iadd, 1, 615), (615, .iaload, 1, 616), (616, .invokevirtual 67, 3, 619), (619, .aload_n 2, 1, 620), (620, .aload_n 0, 1, 621), (621, .iload_n 3, 1, 622), (622, .iconst 1, 1, 623), (623, .iadd, 1, 624), (624, .iaload, 1, 625), (625, .invokevirtual 70, 3, 628), (628, .if_icmp .eq 695, 3, 631), (631, .iconst 0, 1, 632), (632, .ireturn, 1, 633), (633, .aload_n 1, 1, 634), (634, .aload_n 0, 1, 635), (635, .iload_n 3, 1, 636), (636, .iconst 1, 1, 637), (637, .iadd, 1, 638), (638, .iaload, 1, 639), (639, .aload_n 0, 1, 640), (640, .iload_n 3, 1, 641), (641, .iconst 2, 1, 642), (642, .iadd, 1, 643), (643, .iaload, 1, 644), (644, .invokevirtual 71, 3, 647), (647, .aload_n 2, 1, 648), (648, .aload_n 0, 1, 649), (649, .iload_n 3, 1, 650), (650, .iconst 1, 1, 651), (651, .iadd, 1, 652)]
def T_L_law_10 : List (Nat × Instr × Nat × Nat) := [(652, .iaload, 1, 653), (653, .aload_n 0, 1, 654), (654, .iload_n 3, 1, 655), (655, .iconst 2, 1, 656), (656, .iadd, 1, 657), (657, .iaload, 1, 658), (658, .invokevirtual 74, 3, 661), (661, .if_icmp .eq 662, 3, 664), (664, .iconst 0, 1, 665), (665, .ireturn, 1, 666), (666, .aload_n 1, 1, 667), (667, .aload_n 0, 1, 668), (668, .iload_n 3, 1, 669), (669, .iconst 1, 1, 670), (670, .iadd, 1, 671), (671, .iaload, 1, 672), (672, .aload_n 0, 1, 673), (673, .iload_n 3, 1, 674), (674, .iconst 2, 1, 675), (675, .iadd, 1, 676), (676, .iaload, 1, 677), (677, .invokevirtual 75, 3, 680), (680, .aload_n 2, 1, 681), (681, .aload_n 0, 1, 682), (682, .iload_n 3, 1, 683), (683, .iconst 1, 1, 684), (684, .iadd, 1, 685), (685, .iaload, 1, 686), (686, .aload_n 0, 1, 687), (687, .iload_n 3, 1, 688), (688, .iconst 2, 1, 689), (689, .iadd, 1, 690), (690, .iaload, 1, 691), (691, .invokevirtual 78, 3, 694), (694, .if_icmp .eq 629, 3, 697), (697, .iconst 0, 1, 698), (698, .ireturn, 1, 699), (699, .aload_n 1, 1, 700), (700, .aload_n 0, 1, 701), (701, .iload_n 3, 1, 702)]
def T_L_law_11 : List (Nat × Instr × Nat × Nat) := [(702, .iconst 1, 1, 703), (703, .iadd, 1, 704), (704, .iaload, 1, 705), (705, .invokevirtual 79, 3, 708), (708, .aload_n 2, 1, 709), (709, .aload_n 0, 1, 710), (710, .iload_n 3, 1, 711), (711, .iconst 1, 1, 712), (712, .iadd, 1, 713), (713, .iaload, 1, 714), (714, .invokevirtual 82, 3, 717), (717, .if_icmp .eq 606, 3, 720), (720, .iconst 0, 1, 721), (721, .ireturn, 1, 722), (722, .aload_n 1, 1, 723), (723, .invokevirtual 83, 3, 726), (726, .aload_n 2, 1, 727), (727, .invokevirtual 86, 3, 730), (730, .if_icmp .eq 593, 3, 733), (733, .iconst 0, 1, 734), (734, .ireturn, 1, 735), (735, .aload_n 1, 1, 736), (736, .invokevirtual 87, 3, 739), (739, .aload_n 2, 1, 740), (740, .invokevirtual 90, 3, 743), (743, .if_icmp .eq 580, 3, 746), (746, .iconst 0, 1, 747), (747, .ireturn, 1, 748), (748, .aload_n 1, 1, 749), (749, .aload_n 0, 1, 750), (750, .iload_n 3, 1, 751), (751, .iconst 1, 1, 752), (752, .iadd, 1, 753), (753, .iaload, 1, 754), (754, .aload_n 0, 1, 755), (755, .iload_n 3, 1, 756), (756, .iconst 2, 1, 757), (757, .iadd, 1, 758), (758, .iaload, 1, 759), (759, .invokevirtual 91, 3, 762)]
def T_L_law_12 : List (Nat × Instr × Nat × Nat) := [(762, .aload_n 2, 1, 763), (763, .aload_n 0, 1, 764), (764, .iload_n 3, 1, 765), (765, .iconst 1, 1, 766), (766, .iadd, 1, 767), (767, .iaload, 1, 768), (768, .aload_n 0, 1, 769), (769, .iload_n 3, 1, 770), (770, .iconst 2, 1, 771), (771, .iadd, 1, 772), (772, .iaload, 1, 773), (773, .invokevirtual 94, 3, 776), (776, .if_icmp .eq 547, 3, 779), (779, .iconst 0, 1, 780), (780, .ireturn, 1, 781), (781, .aload_n 1, 1, 782), (782, .aload_n 0, 1, 783), (783, .iload_n 3, 1, 784), (784, .iconst 1, 1, 785), (785, .iadd, 1, 786), (786, .iaload, 1, 787), (787, .invokevirtual 95, 3, 790), (790, .aload_n 2, 1, 791), (791, .aload_n 0, 1, 792), (792, .iload_n 3, 1, 793), (793, .iconst 1, 1, 794), (794, .iadd, 1, 795), (795, .iaload, 1, 796), (796, .invokevirtual 98, 3, 799), (799, .if_icmp .eq 524, 3, 802), (802, .iconst 0, 1, 803), (803, .ireturn, 1, 804), (804, .aload_n 1, 1, 805), (805, .aload_n 0, 1, 806), (806, .iload_n 3, 1, 807), (807, .iconst 1, 1, 808), (808, .iadd, 1, 809), (809, .iaload, 1, 810), (810, .invokevirtual 99, 3, 813), (813, .aload_n 2, 1, 814)]
def T_L_law_13 : List (Nat × Instr × Nat × Nat) := [(814, .aload_n 0, 1, 815), (815, .iload_n 3, 1, 816), (816, .iconst 1, 1, 817), (817, .iadd, 1, 818), (818, .iaload, 1, 819), (819, .invokevirtual 102, 3, 822), (822, .if_icmp .eq 501, 3, 825), (825, .iconst 0, 1, 826), (826, .ireturn, 1, 827), (827, .aload_n 1, 1, 828), (828, .aload_n 0, 1, 829), (829, .iload_n 3, 1, 830), (830, .iconst 1, 1, 831), (831, .iadd, 1, 832), (832, .iaload, 1, 833), (833, .aload_n 0, 1, 834), (834, .iload_n 3, 1, 835), (835, .iconst 2, 1, 836), (836, .iadd, 1, 837), (837, .iaload, 1, 838), (838, .invokevirtual 103, 3, 841), (841, .aload_n 2, 1, 842), (842, .aload_n 0, 1, 843), (843, .iload_n 3, 1, 844), (844, .iconst 1, 1, 845), (845, .iadd, 1, 846), (846, .iaload, 1, 847), (847, .aload_n 0, 1, 848), (848, .iload_n 3, 1, 849), (849, .iconst 2, 1, 850), (850, .iadd, 1, 851), (851, .iaload, 1, 852), (852, .invokevirtual 106, 3, 855), (855, .if_icmp .eq 468, 3, 858), (858, .iconst 0, 1, 859), (859, .ireturn, 1, 860), (860, .aload_n 1, 1, 861), (861, .aload_n 0, 1, 862), (862, .iload_n 3, 1, 863), (863, .iconst 1, 1, 864)]
def T_L_law_14 : List (Nat × Instr × Nat × Nat) := [(864, .iadd, 1, 865), (865, .iaload, 1, 866), (866, .aload_n 0, 1, 867), (867, .iload_n 3, 1, 868), (868, .iconst 2, 1, 869), (869, .iadd, 1, 870), (870, .iaload, 1, 871), (871, .aload_n 0, 1, 872), (872, .iload_n 3, 1, 873), (873, .iconst 3, 1, 874), (874, .iadd, 1, 875), (875, .iaload, 1, 876), (876, .invokevirtual 107, 3, 879), (879, .aload_n 2, 1, 880), (880, .aload_n 0, 1, 881), (881, .iload_n 3, 1, 882), (882, .iconst 1, 1, 883), (883, .iadd, 1, 884), (884, .iaload, 1, 885), (885, .aload_n 0, 1, 886), (886, .iload_n 3, 1, 887), (887, .iconst 2, 1, 888), (888, .iadd, 1, 889), (889, .iaload, 1, 890), (890, .aload_n 0, 1, 891), (891, .iload_n 3, 1, 892), (892, .iconst 3, 1, 893), (893, .iadd, 1, 894), (894, .iaload, 1, 895), (895, .invokevirtual 111, 3, 898), (898, .if_icmp .eq 425, 3, 901), (901, .iconst 0, 1, 902), (902, .ireturn, 1, 903), (903, .aload_n 1, 1, 904), (904, .aload_n 0, 1, 905), (905, .iload_n 3, 1, 906), (906, .iconst 1, 1, 907), (907, .iadd, 1, 908), (908, .iaload, 1, 909), (909, .invokevirtual 112, 3, 912)]
def T_L_law_15 : List (Nat × Instr × Nat × Nat) := [(912, .aload_n 2, 1, 913), (913, .aload_n 0, 1, 914), (914, .iload_n 3, 1, 915), (915, .iconst 1, 1, 916), (916, .iadd, 1, 917), (917, .iaload, 1, 918), (918, .invokevirtual 115, 3, 921), (921, .if_icmp .eq 402, 3, 924), (924, .iconst 0, 1, 925), (925, .ireturn, 1, 926), (926, .aload_n 1, 1, 927), (927, .aload_n 0, 1, 928), (928, .iload_n 3, 1, 929), (929, .iconst 1, 1, 930), (930, .iadd, 1, 931), (931, .iaload, 1, 932), (932, .invokevirtual 116, 3, 935), (935, .aload_n 2, 1, 936), (936, .aload_n 0, 1, 937), (937, .iload_n 3, 1, 938), (938, .iconst 1, 1, 939), (939, .iadd, 1, 940), (940, .iaload, 1, 941), (941, .invokevirtual 119, 3, 944), (944, .if_icmp .eq 379, 3, 947), (947, .iconst 0, 1, 948), (948, .ireturn, 1, 949), (949, .aload_n 1, 1, 950), (950, .aload_n 0, 1, 951), (951, .iload_n 3, 1, 952), (952, .iconst 1, 1, 953), (953, .iadd, 1, 954), (954, .iaload, 1, 955), (955, .invokevirtual 120, 3, 958), (958, .aload_n 2, 1, 959), (959, .aload_n 0, 1, 960), (960, .iload_n 3, 1, 961), (961, .iconst 1, 1, 962), (962, .iadd, 1, 963), (963, .iaload, 1, 964)]
def T_L_law_16 : List (Nat × Instr × Nat × Nat) := [(964, .invokevirtual 123, 3, 967), (967, .if_icmp .eq 356, 3, 970), (970, .iconst 0, 1, 971), (971, .ireturn, 1, 972), (972, .aload_n 1, 1, 973), (973, .aload_n 0, 1, 974), (974, .iload_n 3, 1, 975), (975, .iconst 1, 1, 976), (976, .iadd, 1, 977), (977, .iaload, 1, 978), (978, .invokevirtual 124, 3, 981), (981, .aload_n 2, 1, 982), (982, .aload_n 0, 1, 983), (983, .iload_n 3, 1, 984), (984, .iconst 1, 1, 985), (985, .iadd, 1, 986), (986, .iaload, 1, 987), (987, .invokevirtual 127, 3, 990), (990, .if_icmp .eq 333, 3, 993), (993, .iconst 0, 1, 994), (994, .ireturn, 1, 995), (995, .aload_n 1, 1, 996), (996, .aload_n 0, 1, 997), (997, .iload_n 3, 1, 998), (998, .iconst 1, 1, 999), (999, .iadd, 1, 1000), (1000, .iaload, 1, 1001), (1001, .invokevirtual 128, 3, 1004), (1004, .aload_n 2, 1, 1005), (1005, .aload_n 0, 1, 1006), (1006, .iload_n 3, 1, 1007), (1007, .iconst 1, 1, 1008), (1008, .iadd, 1, 1009), (1009, .iaload, 1, 1010), (1010, .invokevirtual 131, 3, 1013), (1013, .if_icmp .eq 310, 3, 1016), (1016, .iconst 0, 1, 1017), (1017, .ireturn, 1, 1018), (1018, .aload_n 1, 1, 1019), (1019, .aload_n 0, 1, 1020)]
def T_L_law_17 : List (Nat × Instr × Nat × Nat) := [(1020, .iload_n 3, 1, 1021), (1021, .iconst 1, 1, 1022), (1022, .iadd, 1, 1023), (1023, .iaload, 1, 1024), (1024, .aload_n 0, 1, 1025), (1025, .iload_n 3, 1, 1026), (1026, .iconst 2, 1, 1027), (1027, .iadd, 1, 1028), (1028, .iaload, 1, 1029), (1029, .aload_n 0, 1, 1030), (1030, .iload_n 3, 1, 1031), (1031, .iconst 3, 1, 1032), (1032, .iadd, 1, 1033), (1033, .iaload, 1, 1034), (1034, .invokevirtual 132, 3, 1037), (1037, .aload_n 2, 1, 1038), (1038, .aload_n 0, 1, 1039), (1039, .iload_n 3, 1, 1040), (1040, .iconst 1, 1, 1041), (1041, .iadd, 1, 1042), (1042, .iaload, 1, 1043), (1043, .aload_n 0, 1, 1044), (1044, .iload_n 3, 1, 1045), (1045, .iconst 2, 1, 1046), (1046, .iadd, 1, 1047), (1047, .iaload, 1, 1048), (1048, .aload_n 0, 1, 1049), (1049, .iload_n 3, 1, 1050), (1050, .iconst 3, 1, 1051), (1051, .iadd, 1, 1052), (1052, .iaload, 1, 1053), (1053, .invokevirtual 136, 3, 1056), (1056, .lcmp, 1, 1057), (1057, .ifCond .eq 266, 3, 1060), (1060, .iconst 0, 1, 1061), (1061, .ireturn, 1, 1062), (1062, .aload_n 1, 1, 1063), (1063, .invokevirtual 137, 3, 1066), (1066, .aload_n 2, 1, 1067), (1067, .invokevirtual 140, 3, 1070)]
def T_L_law_18 : List (Nat × Instr × Nat × Nat) := [(1070, .if_icmp .eq 253, 3, 1073), (1073, .iconst 0, 1, 1074), (1074, .ireturn, 1, 1075), (1075, .aload_n 1, 1, 1076), (1076, .invokevirtual 141, 3, 1079), (1079, .aload_n 2, 1, 1080), (1080, .invokevirtual 144, 3, 1083), (1083, .if_icmp .eq 240, 3, 1086), (1086, .iconst 0, 1, 1087), (1087, .ireturn, 1, 1088), (1088, .aload_n 1, 1, 1089), (1089, .aload_n 0, 1, 1090), (1090, .iload_n 3, 1, 1091), (1091, .iconst 1, 1, 1092), (1092, .iadd, 1, 1093), (1093, .iaload, 1, 1094), (1094, .aload_n 0, 1, 1095), (1095, .iload_n 3, 1, 1096), (1096, .iconst 2, 1, 1097), (1097, .iadd, 1, 1098), (1098, .iaload, 1, 1099), (1099, .aload_n 0, 1, 1100), (1100, .iload_n 3, 1, 1101), (1101, .iconst 3, 1, 1102), (1102, .iadd, 1, 1103), (1103, .iaload, 1, 1104), (1104, .invokevirtual 145, 3, 1107), (1107, .aload_n 2, 1, 1108), (1108, .aload_n 0, 1, 1109), (1109, .iload_n 3, 1, 1110), (1110, .iconst 1, 1, 1111), (1111, .iadd, 1, 1112), (1112, .iaload, 1, 1113), (1113, .aload_n 0, 1, 1114), (1114, .iload_n 3, 1, 1115), (1115, .iconst 2, 1, 1116), (1116, .iadd, 1, 1117), (1117, .iaload, 1, 1118), (1118, .aload_n 0, 1, 1119), (1119, .iload_n 3, 1, 1120)]
def T_L_law_19 : List (Nat × Instr × Nat × Nat) := [(1120, .iconst 3, 1, 1121), (1121, .iadd, 1, 1122), (1122, .iaload, 1, 1123), (1123, .invokevirtual 148, 3, 1126), (1126, .if_icmp .eq 197, 3, 1129), (1129, .iconst 0, 1, 1130), (1130, .ireturn, 1, 1131), (1131, .aload_n 1, 1, 1132), (1132, .aload_n 0, 1, 1133), (1133, .iload_n 3, 1, 1134), (1134, .iconst 1, 1, 1135), (1135, .iadd, 1, 1136), (1136, .iaload, 1, 1137), (1137, .aload_n 0, 1, 1138), (1138, .iload_n 3, 1, 1139), (1139, .iconst 2, 1, 1140), (1140, .iadd, 1, 1141), (1141, .iaload, 1, 1142), (1142, .aload_n 0, 1, 1143), (1143, .iload_n 3, 1, 1144), (1144, .iconst 3, 1, 1145), (1145, .iadd, 1, 1146), (1146, .iaload, 1, 1147), (1147, .invokevirtual 149, 3, 1150), (1150, .aload_n 2, 1, 1151), (1151, .aload_n 0, 1, 1152), (1152, .iload_n 3, 1, 1153), (1153, .iconst 1, 1, 1154), (1154, .iadd, 1, 1155), (1155, .iaload, 1, 1156), (1156, .aload_n 0, 1, 1157), (1157, .iload_n 3, 1, 1158), (1158, .iconst 2, 1, 1159), (1159, .iadd, 1, 1160), (1160, .iaload, 1, 1161), (1161, .aload_n 0, 1, 1162), (1162, .iload_n 3, 1, 1163), (1163, .iconst 3, 1, 1164), (1164, .iadd, 1, 1165), (1165, .iaload, 1, 1166)]
def T_L_law_20 : List (Nat × Instr × Nat × Nat) := [(1166, .invokevirtual 152, 3, 1169), (1169, .if_icmp .eq 154, 3, 1172), (1172, .iconst 0, 1, 1173), (1173, .ireturn, 1, 1174), (1174, .aload_n 1, 1, 1175), (1175, .aload_n 0, 1, 1176), (1176, .iload_n 3, 1, 1177), (1177, .iconst 1, 1, 1178), (1178, .iadd, 1, 1179), (1179, .iaload, 1, 1180), (1180, .aload_n 0, 1, 1181), (1181, .iload_n 3, 1, 1182), (1182, .iconst 2, 1, 1183), (1183, .iadd, 1, 1184), (1184, .iaload, 1, 1185), (1185, .aload_n 0, 1, 1186), (1186, .iload_n 3, 1, 1187), (1187, .iconst 3, 1, 1188), (1188, .iadd, 1, 1189), (1189, .iaload, 1, 1190), (1190, .aload_n 0, 1, 1191), (1191, .iload_n 3, 1, 1192), (1192, .iconst 4, 1, 1193), (1193, .iadd, 1, 1194), (1194, .iaload, 1, 1195), (1195, .aload_n 0, 1, 1196), (1196, .iload_n 3, 1, 1197), (1197, .iconst 5, 1, 1198), (1198, .iadd, 1, 1199), (1199, .iaload, 1, 1200), (1200, .invokevirtual 153, 3, 1203), (1203, .aload_n 2, 1, 1204), (1204, .aload_n 0, 1, 1205), (1205, .iload_n 3, 1, 1206), (1206, .iconst 1, 1, 1207), (1207, .iadd, 1, 1208), (1208, .iaload, 1, 1209), (1209, .aload_n 0, 1, 1210), (1210, .iload_n 3, 1, 1211), (1211, .iconst 2, 1, 1212)]
def T_L_law_21 : List (Nat × Instr × Nat × Nat) := [(1212, .iadd, 1, 1213), (1213, .iaload, 1, 1214), (1214, .aload_n 0, 1, 1215), (1215, .iload_n 3, 1, 1216), (1216, .iconst 3, 1, 1217), (1217, .iadd, 1, 1218), (1218, .iaload, 1, 1219), (1219, .aload_n 0, 1, 1220), (1220, .iload_n 3, 1, 1221), (1221, .iconst 4, 1, 1222), (1222, .iadd, 1, 1223), (1223, .iaload, 1, 1224), (1224, .aload_n 0, 1, 1225), (1225, .iload_n 3, 1, 1226), (1226, .iconst 5, 1, 1227), (1227, .iadd, 1, 1228), (1228, .iaload, 1, 1229), (1229, .invokevirtual 156, 3, 1232), (1232, .if_icmp .eq 91, 3, 1235), (1235, .iconst 0, 1, 1236), (1236, .ireturn, 1, 1237), (1237, .aload_n 1, 1, 1238), (1238, .aload_n 0, 1, 1239), (1239, .iload_n 3, 1, 1240), (1240, .iconst 1, 1, 1241), (1241, .iadd, 1, 1242), (1242, .iaload, 1, 1243), (1243, .aload_n 0, 1, 1244), (1244, .iload_n 3, 1, 1245), (1245, .iconst 2, 1, 1246), (1246, .iadd, 1, 1247), (1247, .iaload, 1, 1248), (1248, .aload_n 0, 1, 1249), (1249, .iload_n 3, 1, 1250), (1250, .iconst 3, 1, 1251), (1251, .iadd, 1, 1252), (1252, .iaload, 1, 1253), (1253, .aload_n 0, 1, 1254), (1254, .iload_n 3, 1, 1255), (1255, .iconst 4, 1, 1256)]
def T_L_law_22 : List (Nat × Instr × Nat × Nat) := [(1256, .iadd, 1, 1257), (1257, .iaload, 1, 1258), (1258, .invokevirtual 157, 3, 1261), (1261, .aload_n 2, 1, 1262), (1262, .aload_n 0, 1, 1263), (1263, .iload_n 3, 1, 1264), (1264, .iconst 1, 1, 1265), (1265, .iadd, 1, 1266), (1266, .iaload, 1, 1267), (1267, .aload_n 0, 1, 1268), (1268, .iload_n 3, 1, 1269), (1269, .iconst 2, 1, 1270), (1270, .iadd, 1, 1271), (1271, .iaload, 1, 1272), (1272, .aload_n 0, 1, 1273), (1273, .iload_n 3, 1, 1274), (1274, .iconst 3, 1, 1275), (1275, .iadd, 1, 1276), (1276, .iaload, 1, 1277), (1277, .aload_n 0, 1, 1278), (1278, .iload_n 3, 1, 1279), (1279, .iconst 4, 1, 1280), (1280, .iadd, 1, 1281), (1281, .iaload, 1, 1282), (1282, .invokevirtual 160, 3, 1285), (1285, .if_icmp .eq 38, 3, 1288), (1288, .iconst 0, 1, 1289), (1289, .ireturn, 1, 1290), (1290, .aload_n 1, 1, 1291), (1291, .aload_n 0, 1, 1292), (1292, .iload_n 3, 1, 1293), (1293, .iconst 1, 1, 1294), (1294, .iadd, 1, 1295), (1295, .iaload, 1, 1296), (1296, .aload_n 0, 1, 1297), (1297, .iload_n 3, 1, 1298), (1298, .iconst 2, 1, 1299), (1299, .iadd, 1, 1300), (1300, .iaload, 1, 1301), (1301, .invokevirtual 161, 3, 1304)]
def T_L_law_23 : List (Nat × Instr × Nat × Nat) := [(1304, .aload_n 2, 1, 1305), (1305, .aload_n 0, 1, 1306), (1306, .iload_n 3, 1, 1307), (1307, .iconst 1, 1, 1308), (1308, .iadd, 1, 1309), (1309, .iaload, 1, 1310), (1310, .aload_n 0, 1, 1311), (1311, .iload_n 3, 1, 1312), (1312, .iconst 2, 1, 1313), (1313, .iadd, 1, 1314), (1314, .iaload, 1, 1315), (1315, .invokevirtual 164, 3, 1318), (1318, .if_icmp .eq 5, 3, 1321), (1321, .iconst 0, 1, 1322), (1322, .ireturn, 1, 1323), (1323, .iinc 3 7, 3, 1326), (1326, .goto (-1308), 3, 1329), (1329, .iconst 1, 1, 1330), (1330, .ireturn, 1, 1331)]
def T_L_law : List (Nat × Instr × Nat × Nat) := [(0, .new 7, 3, 3), (3, .dup, 1, 4), (4, .invokespecial 9, 3, 7), (7, .astore_n 1, 1, 8), (8, .new 10, 3, 11), (11, .dup, 1, 12), (12, .invokespecial 12, 3, 15), (15, .astore_n 2, 1, 16), (16, .iconst 0, 1, 17), (17, .istore_n 3, 1, 18), (18, .iload_n 3, 1, 19), (19, .aload_n 0, 1, 20), (20, .arraylength, 1, 21), (21, .bipush 7, 2, 23), (23, .isub, 1, 24), (24, .if_icmp .gt 1305, 3, 27), (27, .aload_n 0, 1, 28), (28, .iload_n 3, 1, 29), (29, .iaload, 1, 30), (30, .bipush 63, 2, 32), (32, .iand, 1, 33), (33, .tableswitch 1290 0 35 #[159, 192, 205, 238, 261, 336, 349, 372, 435, 488, 521, 554, 577, 600, 633, 666, 689, 702, 715, 748, 771, 794, 827, 870, 893, 916, 939, 962, 985, 1029, 1042, 1055, 1098, 1141, 1204, 1257], 159, 192), (192, .aload_n 1, 1, 193), (193, .aload_n 0, 1, 194), (194, .iload_n 3, 1, 195), (195, .iconst 1, 1, 196), (196, .iadd, 1, 197), (197, .iaload, 1, 198), (198, .aload_n 0, 1, 199), (199, .iload_n 3, 1, 200), (200, .iconst 2, 1, 201), (201, .iadd, 1, 202), (202, .iaload, 1, 203), (203, .invokevirtual 13, 3, 206), (206, .aload_n 2, 1, 207), (207, .aload_n 0, 1, 208), (208, .iload_n 3, 1, 209), (209, .iconst 1, 1, 210), (210, .iadd, 1, 211), (211, .iaload, 1, 212), (212, .aload_n 0, 1, 213), (213, .iload_n 3, 1, 214), (214, .iconst 2, 1, 215), (215, .iadd, 1, 216), (216, .iaload, 1, 217), (217, .invokevirtual 17, 3, 220), (220, .if_icmp .eq 1103, 3, 223), (223, .iconst 0, 1, 224), (224, .ireturn, 1, 225), (225, .aload_n 1, 1, 226), (226, .invokevirtual 18, 3, 229), (229, .aload_n 2, 1, 230), (230, .invokevirtual 22, 3, 233), (233, .if_icmp .eq 1090, 3, 236), (236, .iconst 0, 1, 237), (237, .ireturn, 1, 238), (238, .aload_n 1, 1, 239), (239, .aload_n 0, 1, 240), (240, .iload_n 3, 1, 241), (241, .iconst 1, 1, 242), (242, .iadd, 1, 243), (243, .iaload, 1, 244), (244, .aload_n 0, 1, 245), (245, .iload_n 3, 1, 246), (246, .iconst 2, 1, 247), (247, .iadd, 1, 248), (248, .iaload, 1, 249), (249, .invokevirtual 23, 3, 252), (252, .aload_n 2, 1, 253), (253, .aload_n 0, 1, 254), (254, .iload_n 3, 1, 255), (255, .iconst 1, 1, 256), (256, .iadd, 1, 257), (257, .iaload, 1, 258), (258, .aload_n 0, 1, 259), (259, .iload_n 3, 1, 260), (260, .iconst 2, 1, 261), (261, .iadd, 1, 262), (262, .iaload, 1, 263), (263, .invokevirtual 26, 3, 266), (266, .if_icmp .eq 1057, 3, 269), (269, .iconst 0, 1, 270), (270, .ireturn, 1, 271), (271, .aload_n 1, 1, 272), (272, .aload_n 0, 1, 273), (273, .iload_n 3, 1, 274), (274, .iconst 1, 1, 275), (275, .iadd, 1, 276), (276, .iaload, 1, 277), (277, .invokevirtual 27, 3, 280), (280, .aload_n 2, 1, 281), (281, .aload_n 0, 1, 282), (282, .iload_n 3, 1, 283), (283, .iconst 1, 1, 284), (284, .iadd, 1, 285), (285, .iaload, 1, 286), (286, .invokevirtual 31, 3, 289), (289, .if_icmp .eq 1034, 3, 292), (292, .iconst 0, 1, 293), (293, .ireturn, 1, 294), (294, .aload_n 1, 1, 295), (295, .aload_n 0, 1, 296), (296, .iload_n 3, 1, 297), (297, .iconst 1, 1, 298), (298, .iadd, 1, 299), (299, .iaload, 1, 300), (300, .aload_n 0, 1, 301), (301, .iload_n 3, 1, 302), (302, .iconst 2, 1, 303), (303, .iadd, 1, 304), (304, .iaload, 1, 305), (305, .aload_n 0, 1, 306), (306, .iload_n 3, 1, 307), (307, .iconst 3, 1, 308), (308, .iadd, 1, 309), (309, .iaload, 1, 310), (310, .aload_n 0, 1, 311), (311, .iload_n 3, 1, 312), (312, .iconst 4, 1, 313), (313, .iadd, 1, 314), (314, .iaload, 1, 315), (315, .aload_n 0, 1, 316), (316, .iload_n 3, 1, 317), (317, .iconst 5, 1, 318), (318, .iadd, 1, 319), (319, .iaload, 1, 320), (320, .aload_n 0, 1, 321), (321, .iload_n 3, 1, 322), (322, .bipush 6, 2, 324), (324, .iadd, 1, 325), (325, .iaload, 1, 326), (326, .invokevirtual 32, 3, 329), (329, .aload_n 2, 1, 330), (330, .aload_n 0, 1, 331), (331, .iload_n 3, 1, 332), (332, .iconst 1, 1, 333), (333, .iadd, 1, 334), (334, .iaload, 1, 335), (335, .aload_n 0, 1, 336), (336, .iload_n 3, 1, 337), (337, .iconst 2, 1, 338), (338, .iadd, 1, 339), (339, .iaload, 1, 340), (340, .aload_n 0, 1, 341), (341, .iload_n 3, 1, 342), (342, .iconst 3, 1, 343), (343, .iadd, 1, 344), (344, .iaload, 1, 345), (345, .aload_n 0, 1, 346), (346, .iload_n 3, 1, 347), (347, .iconst 4, 1, 348), (348, .iadd, 1, 349), (349, .iaload, 1, 350), (350, .aload_n 0, 1, 351), (351, .iload_n 3, 1, 352), (352, .iconst 5, 1, 353), (353, .iadd, 1, 354), (354, .iaload, 1, 355), (355, .aload_n 0, 1, 356), (356, .iload_n 3, 1, 357), (357, .bipush 6, 2, 359), (359, .iadd, 1, 360), (360, .iaload, 1, 361), (361, .invokevirtual 36, 3, 364), (364, .if_icmp .eq 959, 3, 367), (367, .iconst 0, 1, 368), (368, .ireturn, 1, 369), (369, .aload_n 1, 1, 370), (370, .invokevirtual 37, 3, 373), (373, .aload_n 2, 1, 374), (374, .invokevirtual 40, 3, 377), (377, .if_icmp .eq 946, 3, 380), (380, .iconst 0, 1, 381), (381, .ireturn, 1, 382), (382, .aload_n 1, 1, 383), (383, .aload_n 0, 1, 384), (384, .iload_n 3, 1, 385), (385, .iconst 1, 1, 386), (386, .iadd, 1, 387), (387, .iaload, 1, 388), (388, .invokevirtual 41, 3, 391), (391, .aload_n 2, 1, 392), (392, .aload_n 0, 1, 393), (393, .iload_n 3, 1, 394), (394, .iconst 1, 1, 395), (395, .iadd, 1, 396), (396, .iaload, 1, 397), (397, .invokevirtual 44, 3, 400), (400, .if_icmp .eq 923, 3, 403), (403, .iconst 0, 1, 404), (404, .ireturn, 1, 405), (405, .aload_n 1, 1, 406), (406, .aload_n 0, 1, 407), (407, .iload_n 3, 1, 408), (408, .iconst 1, 1, 409), (409, .iadd, 1, 410), (410, .iaload, 1, 411), (411, .aload_n 0, 1, 412), (412, .iload_n 3, 1, 413), (413, .iconst 2, 1, 414), (414, .iadd, 1, 415), (415, .iaload, 1, 416), (416, .aload_n 0, 1, 417), (417, .iload_n 3, 1, 418), (418, .iconst 3, 1, 419), (419, .iadd, 1, 420), (420, .iaload, 1, 421), (421, .aload_n 0, 1, 422), (422, .iload_n 3, 1, 423), (423, .iconst 4, 1, 424), (424, .iadd, 1, 425), (425, .iaload, 1, 426), (426, .aload_n 0, 1, 427), (427, .iload_n 3, 1, 428), (428, .iconst 5, 1, 429), (429, .iadd, 1, 430), (430, .iaload, 1, 431), (431, .invokevirtual 45, 3, 434), (434, .aload_n 2, 1, 435), (435, .aload_n 0, 1, 436), (436, .iload_n 3, 1, 437), (437, .iconst 1, 1, 438), (438, .iadd, 1, 439), (439, .iaload, 1, 440), (440, .aload_n 0, 1, 441), (441, .iload_n 3, 1, 442), (442, .iconst 2, 1, 443), (443, .iadd, 1, 444), (444, .iaload, 1, 445), (445, .aload_n 0, 1, 446), (446, .iload_n 3, 1, 447), (447, .iconst 3, 1, 448), (448, .iadd, 1, 449), (449, .iaload, 1, 450), (450, .aload_n 0, 1, 451), (451, .iload_n 3, 1, 452), (452, .iconst 4, 1, 453), (453, .iadd, 1, 454), (454, .iaload, 1, 455), (455, .aload_n 0, 1, 456), (456, .iload_n 3, 1, 457), (457, .iconst 5, 1, 458), (458, .iadd, 1, 459), (459, .iaload, 1, 460), (460, .invokevirtual 49, 3, 463), (463, .if_icmp .eq 860, 3, 466), (466, .iconst 0, 1, 467), (467, .ireturn, 1, 468), (468, .aload_n 1, 1, 469), (469, .aload_n 0, 1, 470), (470, .iload_n 3, 1, 471), (471, .iconst 1, 1, 472), (472, .iadd, 1, 473), (473, .iaload, 1, 474), (474, .aload_n 0, 1, 475), (475, .iload_n 3, 1, 476), (476, .iconst 2, 1, 477), (477, .iadd, 1, 478), (478, .iaload, 1, 479), (479, .aload_n 0, 1, 480), (480, .iload_n 3, 1, 481), (481, .iconst 3, 1, 482), (482, .iadd, 1, 483), (483, .iaload, 1, 484), (484, .aload_n 0, 1, 485), (485, .iload_n 3, 1, 486), (486, .iconst 4, 1, 487), (487, .iadd, 1, 488), (488, .iaload, 1, 489), (489, .invokevirtual 50, 3, 492), (492, .aload_n 2, 1, 493), (493, .aload_n 0, 1, 494), (494, .iload_n 3, 1, 495), (495, .iconst 1, 1, 496), (496, .iadd, 1, 497), (497, .iaload, 1, 498), (498, .aload_n 0, 1, 499), (499, .iload_n 3, 1, 500), (500, .iconst 2, 1, 501), (501, .iadd, 1, 502), (502, .iaload, 1, 503), (503, .aload_n 0, 1, 504), (504, .iload_n 3, 1, 505), (505, .iconst 3, 1, 506), (506, .iadd, 1, 507), (507, .iaload, 1, 508), (508, .aload_n 0, 1, 509), (509, .iload_n 3, 1, 510), (510, .iconst 4, 1, 511), (511, .iadd, 1, 512), (512, .iaload, 1, 513), (513, .invokevirtual 54, 3, 516), (516, .if_icmp .eq 807, 3, 519), (519, .iconst 0, 1, 520), (520, .ireturn, 1, 521), (521, .aload_n 1, 1, 522), (522, .aload_n 0, 1, 523), (523, .iload_n 3, 1, 524), (524, .iconst 1, 1, 525), (525, .iadd, 1, 526), (526, .iaload, 1, 527), (527, .aload_n 0, 1, 528), (528, .iload_n 3, 1, 529), (529, .iconst 2, 1, 530), (530, .iadd, 1, 531), (531, .iaload, 1, 532), (532, .invokevirtual 55, 3, 535), (535, .aload_n 2, 1, 536), (536, .aload_n 0, 1, 537), (537, .iload_n 3, 1, 538), (538, .iconst 1, 1, 539), (539, .iadd, 1, 540), (540, .iaload, 1, 541), (541, .aload_n 0, 1, 542), (542, .iload_n 3, 1, 543), (543, .iconst 2, 1, 544), (544, .iadd, 1, 545), (545, .iaload, 1, 546), (546, .invokevirtual 58, 3, 549), (549, .if_icmp .eq 774, 3, 552), (552, .iconst 0, 1, 553), (553, .ireturn, 1, 554), (554, .aload_n 1, 1, 555), (555, .aload_n 0, 1, 556), (556, .iload_n 3, 1, 557), (557, .iconst 1, 1, 558), (558, .iadd, 1, 559), (559, .iaload, 1, 560), (560, .aload_n 0, 1, 561), (561, .iload_n 3, 1, 562), (562, .iconst 2, 1, 563), (563, .iadd, 1, 564), (564, .iaload, 1, 565), (565, .invokevirtual 59, 3, 568), (568, .aload_n 2, 1, 569), (569, .aload_n 0, 1, 570), (570, .iload_n 3, 1, 571), (571, .iconst 1, 1, 572), (572, .iadd, 1, 573), (573, .iaload, 1, 574), (574, .aload_n 0, 1, 575), (575, .iload_n 3, 1, 576), (576, .iconst 2, 1, 577), (577, .iadd, 1, 578), (578, .iaload, 1, 579), (579, .invokevirtual 62, 3, 582), (582, .if_icmp .eq 741, 3, 585), (585, .iconst 0, 1, 586), (586, .ireturn, 1, 587), (587, .aload_n 1, 1, 588), (588, .aload_n 0, 1, 589), (589, .iload_n 3, 1, 590), (590, .iconst 1, 1, 591), (591, .iadd, 1, 592), (592, .iaload, 1, 593), (593, .invokevirtual 63, 3, 596), (596, .aload_n 2, 1, 597), (597, .aload_n 0, 1, 598), (598, .iload_n 3, 1, 599), (599, .iconst 1, 1, 600), (600, .iadd, 1, 601), (601, .iaload, 1, 602), (602, .invokevirtual 66, 3, 605), (605, .if_icmp .eq 718, 3, 608), (608, .iconst 0, 1, 609), (609, .ireturn, 1, 610), (610, .aload_n 1, 1, 611), (611, .aload_n 0, 1, 612), (612, .iload_n 3, 1, 613), (613, .iconst 1, 1, 614), (614, .iadd, 1, 615), (615, .iaload, 1, 616), (616, .invokevirtual 67, 3, 619), (619, .aload_n 2, 1, 620), (620, .aload_n 0, 1, 621), (621, .iload_n 3, 1, 622), (622, .iconst 1, 1, 623), (623, .iadd, 1, 624), (624, .iaload, 1, 625), (625, .invokevirtual 70, 3, 628), (628, .if_icmp .eq 695, 3, 631), (631, .iconst 0, 1, 632), (632, .ireturn, 1, 633), (633, .aload_n 1, 1, 634), (634, .aload_n 0, 1, 635), (635, .iload_n 3, 1, 636), (636, .iconst 1, 1, 637), (637, .iadd, 1, 638), (638, .iaload, 1, 639), (639, .aload_n 0, 1, 640), (640, .iload_n 3, 1, 641), (641, .iconst 2, 1, 642), (642, .iadd, 1, 643), (643, .iaload, 1, 644), (644, .invokevirtual 71, 3, 647), (647, .aload_n 2, 1, 648), (648, .aload_n 0, 1, 649), (649, .iload_n 3, 1, 650), (650, .iconst 1, 1, 651), (651, .iadd, 1, 652), (652, .iaload, 1, 653), (653, .aload_n 0, 1, 654), (654, .iload_n 3, 1, 655), (655, .iconst 2, 1, 656), (656, .iadd, 1, 657), (657, .iaload, 1, 658), (658, .invokevirtual 74, 3, 661), (661, .if_icmp .eq 662, 3, 664), (664, .iconst 0, 1, 665), (665, .ireturn, 1, 666), (666, .aload_n 1, 1, 667), (667, .aload_n 0, 1, 668), (668, .iload_n 3, 1, 669), (669, .iconst 1, 1, 670), (670, .iadd, 1, 671), (671, .iaload, 1, 672), (672, .aload_n 0, 1, 673), (673, .iload_n 3, 1, 674), (674, .iconst 2, 1, 675), (675, .iadd, 1, 676), (676, .iaload, 1, 677), (677, .invokevirtual 75, 3, 680), (680, .aload_n 2, 1, 681), (681, .aload_n 0, 1, 682), (682, .iload_n 3, 1, 683), (683, .iconst 1, 1, 684), (684, .iadd, 1, 685), (685, .iaload, 1, 686), (686, .aload_n 0, 1, 687), (687, .iload_n 3, 1, 688), (688, .iconst 2, 1, 689), (689, .iadd, 1, 690), (690, .iaload, 1, 691), (691, .invokevirtual 78, 3, 694), (694, .if_icmp .eq 629, 3, 697), (697, .iconst 0, 1, 698), (698, .ireturn, 1, 699), (699, .aload_n 1, 1, 700), (700, .aload_n 0, 1, 701), (701, .iload_n 3, 1, 702), (702, .iconst 1, 1, 703), (703, .iadd, 1, 704), (704, .iaload, 1, 705), (705, .invokevirtual 79, 3, 708), (708, .aload_n 2, 1, 709), (709, .aload_n 0, 1, 710), (710, .iload_n 3, 1, 711), (711, .iconst 1, 1, 712), (712, .iadd, 1, 713), (713, .iaload, 1, 714), (714, .invokevirtual 82, 3, 717), (717, .if_icmp .eq 606, 3, 720), (720, .iconst 0, 1, 721), (721, .ireturn, 1, 722), (722, .aload_n 1, 1, 723), (723, .invokevirtual 83, 3, 726), (726, .aload_n 2, 1, 727), (727, .invokevirtual 86, 3, 730), (730, .if_icmp .eq 593, 3, 733), (733, .iconst 0, 1, 734), (734, .ireturn, 1, 735), (735, .aload_n 1, 1, 736), (736, .invokevirtual 87, 3, 739), (739, .aload_n 2, 1, 740), (740, .invokevirtual 90, 3, 743), (743, .if_icmp .eq 580, 3, 746), (746, .iconst 0, 1, 747), (747, .ireturn, 1, 748), (748, .aload_n 1, 1, 749), (749, .aload_n 0, 1, 750), (750, .iload_n 3, 1, 751), (751, .iconst 1, 1, 752), (752, .iadd, 1, 753), (753, .iaload, 1, 754), (754, .aload_n 0, 1, 755), (755, .iload_n 3, 1, 756), (756, .iconst 2, 1, 757), (757, .iadd, 1, 758), (758, .iaload, 1, 759), (759, .invokevirtual 91, 3, 762), (762, .aload_n 2, 1, 763), (763, .aload_n 0, 1, 764), (764, .iload_n 3, 1, 765), (765, .iconst 1, 1, 766), (766, .iadd, 1, 767), (767, .iaload, 1, 768), (768, .aload_n 0, 1, 769), (769, .iload_n 3, 1, 770), (770, .iconst 2, 1, 771), (771, .iadd, 1, 772), (772, .iaload, 1, 773), (773, .invokevirtual 94, 3, 776), (776, .if_icmp .eq 547, 3, 779), (779, .iconst 0, 1, 780), (780, .ireturn, 1, 781), (781, .aload_n 1, 1, 782), (782, .aload_n 0, 1, 783), (783, .iload_n 3, 1, 784), (784, .iconst 1, 1, 785), (785, .iadd, 1, 786), (786, .iaload, 1, 787), (787, .invokevirtual 95, 3, 790), (790, .aload_n 2, 1, 791), (791, .aload_n 0, 1, 792), (792, .iload_n 3, 1, 793), (793, .iconst 1, 1, 794), (794, .iadd, 1, 795), (795, .iaload, 1, 796), (796, .invokevirtual 98, 3, 799), (799, .if_icmp .eq 524, 3, 802), (802, .iconst 0, 1, 803), (803, .ireturn, 1, 804), (804, .aload_n 1, 1, 805), (805, .aload_n 0, 1, 806), (806, .iload_n 3, 1, 807), (807, .iconst 1, 1, 808), (808, .iadd, 1, 809), (809, .iaload, 1, 810), (810, .invokevirtual 99, 3, 813), (813, .aload_n 2, 1, 814), (814, .aload_n 0, 1, 815), (815, .iload_n 3, 1, 816), (816, .iconst 1, 1, 817), (817, .iadd, 1, 818), (818, .iaload, 1, 819), (819, .invokevirtual 102, 3, 822), (822, .if_icmp .eq 501, 3, 825), (825, .iconst 0, 1, 826), (826, .ireturn, 1, 827), (827, .aload_n 1, 1, 828), (828, .aload_n 0, 1, 829), (829, .iload_n 3, 1, 830), (830, .iconst 1, 1, 831), (831, .iadd, 1, 832), (832, .iaload, 1, 833), (833, .aload_n 0, 1, 834), (834, .iload_n 3, 1, 835), (835, .iconst 2, 1, 836), (836, .iadd, 1, 837), (837, .iaload, 1, 838), (838, .invokevirtual 103, 3, 841), (841, .aload_n 2, 1, 842), (842, .aload_n 0, 1, 843), (843, .iload_n 3, 1, 844), (844, .iconst 1, 1, 845), (845, .iadd, 1, 846), (846, .iaload, 1, 847), (847, .aload_n 0, 1, 848), (848, .iload_n 3, 1, 849), (849, .iconst 2, 1, 850), (850, .iadd, 1, 851), (851, .iaload, 1, 852), (852, .invokevirtual 106, 3, 855), (855, .if_icmp .eq 468, 3, 858), (858, .iconst 0, 1, 859), (859, .ireturn, 1, 860), (860, .aload_n 1, 1, 861), (861, .aload_n 0, 1, 862), (862, .iload_n 3, 1, 863), (863, .iconst 1, 1, 864), (864, .iadd, 1, 865), (865, .iaload, 1, 866), (866, .aload_n 0, 1, 867), (867, .iload_n 3, 1, 868), (868, .iconst 2, 1, 869), (869, .iadd, 1, 870), (870, .iaload, 1, 871), (871, .aload_n 0, 1, 872), (872, .iload_n 3, 1, 873), (873, .iconst 3, 1, 874), (874, .iadd, 1, 875), (875, .iaload, 1, 876), (876, .invokevirtual 107, 3, 879), (879, .aload_n 2, 1, 880), (880, .aload_n 0, 1, 881), (881, .iload_n 3, 1, 882), (882, .iconst 1, 1, 883), (883, .iadd, 1, 884), (884, .iaload, 1, 885), (885, .aload_n 0, 1, 886), (886, .iload_n 3, 1, 887), (887, .iconst 2, 1, 888), (888, .iadd, 1, 889), (889, .iaload, 1, 890), (890, .aload_n 0, 1, 891), (891, .iload_n 3, 1, 892), (892, .iconst 3, 1, 893), (893, .iadd, 1, 894), (894, .iaload, 1, 895), (895, .invokevirtual 111, 3, 898), (898, .if_icmp .eq 425, 3, 901), (901, .iconst 0, 1, 902), (902, .ireturn, 1, 903), (903, .aload_n 1, 1, 904), (904, .aload_n 0, 1, 905), (905, .iload_n 3, 1, 906), (906, .iconst 1, 1, 907), (907, .iadd, 1, 908), (908, .iaload, 1, 909), (909, .invokevirtual 112, 3, 912), (912, .aload_n 2, 1, 913), (913, .aload_n 0, 1, 914), (914, .iload_n 3, 1, 915), (915, .iconst 1, 1, 916), (916, .iadd, 1, 917), (917, .iaload, 1, 918), (918, .invokevirtual 115, 3, 921), (921, .if_icmp .eq 402, 3, 924), (924, .iconst 0, 1, 925), (925, .ireturn, 1, 926), (926, .aload_n 1, 1, 927), (927, .aload_n 0, 1, 928), (928, .iload_n 3, 1, 929), (929, .iconst 1, 1, 930), (930, .iadd, 1, 931), (931, .iaload, 1, 932), (932, .invokevirtual 116, 3, 935), (935, .aload_n 2, 1, 936), (936, .aload_n 0, 1, 937), (937, .iload_n 3, 1, 938), (938, .iconst 1, 1, 939), (939, .iadd, 1, 940), (940, .iaload, 1, 941), (941, .invokevirtual 119, 3, 944), (944, .if_icmp .eq 379, 3, 947), (947, .iconst 0, 1, 948), (948, .ireturn, 1, 949), (949, .aload_n 1, 1, 950), (950, .aload_n 0, 1, 951), (951, .iload_n 3, 1, 952), (952, .iconst 1, 1, 953), (953, .iadd, 1, 954), (954, .iaload, 1, 955), (955, .invokevirtual 120, 3, 958), (958, .aload_n 2, 1, 959), (959, .aload_n 0, 1, 960), (960, .iload_n 3, 1, 961), (961, .iconst 1, 1, 962), (962, .iadd, 1, 963), (963, .iaload, 1, 964), (964, .invokevirtual 123, 3, 967), (967, .if_icmp .eq 356, 3, 970), (970, .iconst 0, 1, 971), (971, .ireturn, 1, 972), (972, .aload_n 1, 1, 973), (973, .aload_n 0, 1, 974), (974, .iload_n 3, 1, 975), (975, .iconst 1, 1, 976), (976, .iadd, 1, 977), (977, .iaload, 1, 978), (978, .invokevirtual 124, 3, 981), (981, .aload_n 2, 1, 982), (982, .aload_n 0, 1, 983), (983, .iload_n 3, 1, 984), (984, .iconst 1, 1, 985), (985, .iadd, 1, 986), (986, .iaload, 1, 987), (987, .invokevirtual 127, 3, 990), (990, .if_icmp .eq 333, 3, 993), (993, .iconst 0, 1, 994), (994, .ireturn, 1, 995), (995, .aload_n 1, 1, 996), (996, .aload_n 0, 1, 997), (997, .iload_n 3, 1, 998), (998, .iconst 1, 1, 999), (999, .iadd, 1, 1000), (1000, .iaload, 1, 1001), (1001, .invokevirtual 128, 3, 1004), (1004, .aload_n 2, 1, 1005), (1005, .aload_n 0, 1, 1006), (1006, .iload_n 3, 1, 1007), (1007, .iconst 1, 1, 1008), (1008, .iadd, 1, 1009), (1009, .iaload, 1, 1010), (1010, .invokevirtual 131, 3, 1013), (1013, .if_icmp .eq 310, 3, 1016), (1016, .iconst 0, 1, 1017), (1017, .ireturn, 1, 1018), (1018, .aload_n 1, 1, 1019), (1019, .aload_n 0, 1, 1020), (1020, .iload_n 3, 1, 1021), (1021, .iconst 1, 1, 1022), (1022, .iadd, 1, 1023), (1023, .iaload, 1, 1024), (1024, .aload_n 0, 1, 1025), (1025, .iload_n 3, 1, 1026), (1026, .iconst 2, 1, 1027), (1027, .iadd, 1, 1028), (1028, .iaload, 1, 1029), (1029, .aload_n 0, 1, 1030), (1030, .iload_n 3, 1, 1031), (1031, .iconst 3, 1, 1032), (1032, .iadd, 1, 1033), (1033, .iaload, 1, 1034), (1034, .invokevirtual 132, 3, 1037), (1037, .aload_n 2, 1, 1038), (1038, .aload_n 0, 1, 1039), (1039, .iload_n 3, 1, 1040), (1040, .iconst 1, 1, 1041), (1041, .iadd, 1, 1042), (1042, .iaload, 1, 1043), (1043, .aload_n 0, 1, 1044), (1044, .iload_n 3, 1, 1045), (1045, .iconst 2, 1, 1046), (1046, .iadd, 1, 1047), (1047, .iaload, 1, 1048), (1048, .aload_n 0, 1, 1049), (1049, .iload_n 3, 1, 1050), (1050, .iconst 3, 1, 1051), (1051, .iadd, 1, 1052), (1052, .iaload, 1, 1053), (1053, .invokevirtual 136, 3, 1056), (1056, .lcmp, 1, 1057), (1057, .ifCond .eq 266, 3, 1060), (1060, .iconst 0, 1, 1061), (1061, .ireturn, 1, 1062), (1062, .aload_n 1, 1, 1063), (1063, .invokevirtual 137, 3, 1066), (1066, .aload_n 2, 1, 1067), (1067, .invokevirtual 140, 3, 1070), (1070, .if_icmp .eq 253, 3, 1073), (1073, .iconst 0, 1, 1074), (1074, .ireturn, 1, 1075), (1075, .aload_n 1, 1, 1076), (1076, .invokevirtual 141, 3, 1079), (1079, .aload_n 2, 1, 1080), (1080, .invokevirtual 144, 3, 1083), (1083, .if_icmp .eq 240, 3, 1086), (1086, .iconst 0, 1, 1087), (1087, .ireturn, 1, 1088), (1088, .aload_n 1, 1, 1089), (1089, .aload_n 0, 1, 1090), (1090, .iload_n 3, 1, 1091), (1091, .iconst 1, 1, 1092), (1092, .iadd, 1, 1093), (1093, .iaload, 1, 1094), (1094, .aload_n 0, 1, 1095), (1095, .iload_n 3, 1, 1096), (1096, .iconst 2, 1, 1097), (1097, .iadd, 1, 1098), (1098, .iaload, 1, 1099), (1099, .aload_n 0, 1, 1100), (1100, .iload_n 3, 1, 1101), (1101, .iconst 3, 1, 1102), (1102, .iadd, 1, 1103), (1103, .iaload, 1, 1104), (1104, .invokevirtual 145, 3, 1107), (1107, .aload_n 2, 1, 1108), (1108, .aload_n 0, 1, 1109), (1109, .iload_n 3, 1, 1110), (1110, .iconst 1, 1, 1111), (1111, .iadd, 1, 1112), (1112, .iaload, 1, 1113), (1113, .aload_n 0, 1, 1114), (1114, .iload_n 3, 1, 1115), (1115, .iconst 2, 1, 1116), (1116, .iadd, 1, 1117), (1117, .iaload, 1, 1118), (1118, .aload_n 0, 1, 1119), (1119, .iload_n 3, 1, 1120), (1120, .iconst 3, 1, 1121), (1121, .iadd, 1, 1122), (1122, .iaload, 1, 1123), (1123, .invokevirtual 148, 3, 1126), (1126, .if_icmp .eq 197, 3, 1129), (1129, .iconst 0, 1, 1130), (1130, .ireturn, 1, 1131), (1131, .aload_n 1, 1, 1132), (1132, .aload_n 0, 1, 1133), (1133, .iload_n 3, 1, 1134), (1134, .iconst 1, 1, 1135), (1135, .iadd, 1, 1136), (1136, .iaload, 1, 1137), (1137, .aload_n 0, 1, 1138), (1138, .iload_n 3, 1, 1139), (1139, .iconst 2, 1, 1140), (1140, .iadd, 1, 1141), (1141, .iaload, 1, 1142), (1142, .aload_n 0, 1, 1143), (1143, .iload_n 3, 1, 1144), (1144, .iconst 3, 1, 1145), (1145, .iadd, 1, 1146), (1146, .iaload, 1, 1147), (1147, .invokevirtual 149, 3, 1150), (1150, .aload_n 2, 1, 1151), (1151, .aload_n 0, 1, 1152), (1152, .iload_n 3, 1, 1153), (1153, .iconst 1, 1, 1154), (1154, .iadd, 1, 1155), (1155, .iaload, 1, 1156), (1156, .aload_n 0, 1, 1157), (1157, .iload_n 3, 1, 1158), (1158, .iconst 2, 1, 1159), (1159, .iadd, 1, 1160), (1160, .iaload, 1, 1161), (1161, .aload_n 0, 1, 1162), (1162, .iload_n 3, 1, 1163), (1163, .iconst 3, 1, 1164), (1164, .iadd, 1, 1165), (1165, .iaload, 1, 1166), (1166, .invokevirtual 152, 3, 1169), (1169, .if_icmp .eq 154, 3, 1172), (1172, .iconst 0, 1, 1173), (1173, .ireturn, 1, 1174), (1174, .aload_n 1, 1, 1175), (1175, .aload_n 0, 1, 1176), (1176, .iload_n 3, 1, 1177), (1177, .iconst 1, 1, 1178), (1178, .iadd, 1, 1179), (1179, .iaload, 1, 1180), (1180, .aload_n 0, 1, 1181), (1181, .iload_n 3, 1, 1182), (1182, .iconst 2, 1, 1183), (1183, .iadd, 1, 1184), (1184, .iaload, 1, 1185), (1185, .aload_n 0, 1, 1186), (1186, .iload_n 3, 1, 1187), (1187, .iconst 3, 1, 1188), (1188, .iadd, 1, 1189), (1189, .iaload, 1, 1190), (1190, .aload_n 0, 1, 1191), (1191, .iload_n 3, 1, 1192), (1192, .iconst 4, 1, 1193), (1193, .iadd, 1, 1194), (1194, .iaload, 1, 1195), (1195, .aload_n 0, 1, 1196), (1196, .iload_n 3, 1, 1197), (1197, .iconst 5, 1, 1198), (1198, .iadd, 1, 1199), (1199, .iaload, 1, 1200), (1200, .invokevirtual 153, 3, 1203), (1203, .aload_n 2, 1, 1204), (1204, .aload_n 0, 1, 1205), (1205, .iload_n 3, 1, 1206), (1206, .iconst 1, 1, 1207), (1207, .iadd, 1, 1208), (1208, .iaload, 1, 1209), (1209, .aload_n 0, 1, 1210), (1210, .iload_n 3, 1, 1211), (1211, .iconst 2, 1, 1212), (1212, .iadd, 1, 1213), (1213, .iaload, 1, 1214), (1214, .aload_n 0, 1, 1215), (1215, .iload_n 3, 1, 1216), (1216, .iconst 3, 1, 1217), (1217, .iadd, 1, 1218), (1218, .iaload, 1, 1219), (1219, .aload_n 0, 1, 1220), (1220, .iload_n 3, 1, 1221), (1221, .iconst 4, 1, 1222), (1222, .iadd, 1, 1223), (1223, .iaload, 1, 1224), (1224, .aload_n 0, 1, 1225), (1225, .iload_n 3, 1, 1226), (1226, .iconst 5, 1, 1227), (1227, .iadd, 1, 1228), (1228, .iaload, 1, 1229), (1229, .invokevirtual 156, 3, 1232), (1232, .if_icmp .eq 91, 3, 1235), (1235, .iconst 0, 1, 1236), (1236, .ireturn, 1, 1237), (1237, .aload_n 1, 1, 1238), (1238, .aload_n 0, 1, 1239), (1239, .iload_n 3, 1, 1240), (1240, .iconst 1, 1, 1241), (1241, .iadd, 1, 1242), (1242, .iaload, 1, 1243), (1243, .aload_n 0, 1, 1244), (1244, .iload_n 3, 1, 1245), (1245, .iconst 2, 1, 1246), (1246, .iadd, 1, 1247), (1247, .iaload, 1, 1248), (1248, .aload_n 0, 1, 1249), (1249, .iload_n 3, 1, 1250), (1250, .iconst 3, 1, 1251), (1251, .iadd, 1, 1252), (1252, .iaload, 1, 1253), (1253, .aload_n 0, 1, 1254), (1254, .iload_n 3, 1, 1255), (1255, .iconst 4, 1, 1256), (1256, .iadd, 1, 1257), (1257, .iaload, 1, 1258), (1258, .invokevirtual 157, 3, 1261), (1261, .aload_n 2, 1, 1262), (1262, .aload_n 0, 1, 1263), (1263, .iload_n 3, 1, 1264), (1264, .iconst 1, 1, 1265), (1265, .iadd, 1, 1266), (1266, .iaload, 1, 1267), (1267, .aload_n 0, 1, 1268), (1268, .iload_n 3, 1, 1269), (1269, .iconst 2, 1, 1270), (1270, .iadd, 1, 1271), (1271, .iaload, 1, 1272), (1272, .aload_n 0, 1, 1273), (1273, .iload_n 3, 1, 1274), (1274, .iconst 3, 1, 1275), (1275, .iadd, 1, 1276), (1276, .iaload, 1, 1277), (1277, .aload_n 0, 1, 1278), (1278, .iload_n 3, 1, 1279), (1279, .iconst 4, 1, 1280), (1280, .iadd, 1, 1281), (1281, .iaload, 1, 1282), (1282, .invokevirtual 160, 3, 1285), (1285, .if_icmp .eq 38, 3, 1288), (1288, .iconst 0, 1, 1289), (1289, .ireturn, 1, 1290), (1290, .aload_n 1, 1, 1291), (1291, .aload_n 0, 1, 1292), (1292, .iload_n 3, 1, 1293), (1293, .iconst 1, 1, 1294), (1294, .iadd, 1, 1295), (1295, .iaload, 1, 1296), (1296, .aload_n 0, 1, 1297), (1297, .iload_n 3, 1, 1298), (1298, .iconst 2, 1, 1299), (1299, .iadd, 1, 1300), (1300, .iaload, 1, 1301), (1301, .invokevirtual 161, 3, 1304), (1304, .aload_n 2, 1, 1305), (1305, .aload_n 0, 1, 1306), (1306, .iload_n 3, 1, 1307), (1307, .iconst 1, 1, 1308), (1308, .iadd, 1, 1309), (1309, .iaload, 1, 1310), (1310, .aload_n 0, 1, 1311), (1311, .iload_n 3, 1, 1312), (1312, .iconst 2, 1, 1313), (1313, .iadd, 1, 1314), (1314, .iaload, 1, 1315), (1315, .invokevirtual 164, 3, 1318), (1318, .if_icmp .eq 5, 3, 1321), (1321, .iconst 0, 1, 1322), (1322, .ireturn, 1, 1323), (1323, .iinc 3 7, 3, 1326), (1326, .goto (-1308), 3, 1329), (1329, .iconst 1, 1, 1330), (1330, .ireturn, 1, 1331)]
def I_L_law : MI := (code, 4, (some .boolean), "OpensAtNineLaw", "law", T_L_law, 600000, 7302250, 2048, 84000)
theorem dT_L_law_0 : ∀ q ∈ T_L_law_0, decode code q.1 = .ok (q.2.1, q.2.2.1) ∧ q.2.2.2 = q.1 + q.2.2.1 := by decide +kernel
theorem dT_L_law_1 : ∀ q ∈ T_L_law_1, decode code q.1 = .ok (q.2.1, q.2.2.1) ∧ q.2.2.2 = q.1 + q.2.2.1 := by decide +kernel
theorem dT_L_law_2 : ∀ q ∈ T_L_law_2, decode code q.1 = .ok (q.2.1, q.2.2.1) ∧ q.2.2.2 = q.1 + q.2.2.1 := by decide +kernel
theorem dT_L_law_3 : ∀ q ∈ T_L_law_3, decode code q.1 = .ok (q.2.1, q.2.2.1) ∧ q.2.2.2 = q.1 + q.2.2.1 := by decide +kernel
theorem dT_L_law_4 : ∀ q ∈ T_L_law_4, decode code q.1 = .ok (q.2.1, q.2.2.1) ∧ q.2.2.2 = q.1 + q.2.2.1 := by decide +kernel
theorem dT_L_law_5 : ∀ q ∈ T_L_law_5, decode code q.1 = .ok (q.2.1, q.2.2.1) ∧ q.2.2.2 = q.1 + q.2.2.1 := by decide +kernel
theorem dT_L_law_6 : ∀ q ∈ T_L_law_6, decode code q.1 = .ok (q.2.1, q.2.2.1) ∧ q.2.2.2 = q.1 + q.2.2.1 := by decide +kernel
theorem dT_L_law_7 : ∀ q ∈ T_L_law_7, decode code q.1 = .ok (q.2.1, q.2.2.1) ∧ q.2.2.2 = q.1 + q.2.2.1 := by decide +kernel
theorem dT_L_law_8 : ∀ q ∈ T_L_law_8, decode code q.1 = .ok (q.2.1, q.2.2.1) ∧ q.2.2.2 = q.1 + q.2.2.1 := by decide +kernel
theorem dT_L_law_9 : ∀ q ∈ T_L_law_9, decode code q.1 = .ok (q.2.1, q.2.2.1) ∧ q.2.2.2 = q.1 + q.2.2.1 := by decide +kernel
theorem dT_L_law_10 : ∀ q ∈ T_L_law_10, decode code q.1 = .ok (q.2.1, q.2.2.1) ∧ q.2.2.2 = q.1 + q.2.2.1 := by decide +kernel
theorem dT_L_law_11 : ∀ q ∈ T_L_law_11, decode code q.1 = .ok (q.2.1, q.2.2.1) ∧ q.2.2.2 = q.1 + q.2.2.1 := by decide +kernel
theorem dT_L_law_12 : ∀ q ∈ T_L_law_12, decode code q.1 = .ok (q.2.1, q.2.2.1) ∧ q.2.2.2 = q.1 + q.2.2.1 := by decide +kernel
theorem dT_L_law_13 : ∀ q ∈ T_L_law_13, decode code q.1 = .ok (q.2.1, q.2.2.1) ∧ q.2.2.2 = q.1 + q.2.2.1 := by decide +kernel
theorem dT_L_law_14 : ∀ q ∈ T_L_law_14, decode code q.1 = .ok (q.2.1, q.2.2.1) ∧ q.2.2.2 = q.1 + q.2.2.1 := by decide +kernel
theorem dT_L_law_15 : ∀ q ∈ T_L_law_15, decode code q.1 = .ok (q.2.1, q.2.2.1) ∧ q.2.2.2 = q.1 + q.2.2.1 := by decide +kernel
theorem dT_L_law_16 : ∀ q ∈ T_L_law_16, decode code q.1 = .ok (q.2.1, q.2.2.1) ∧ q.2.2.2 = q.1 + q.2.2.1 := by decide +kernel
theorem dT_L_law_17 : ∀ q ∈ T_L_law_17, decode code q.1 = .ok (q.2.1, q.2.2.1) ∧ q.2.2.2 = q.1 + q.2.2.1 := by decide +kernel
theorem dT_L_law_18 : ∀ q ∈ T_L_law_18, decode code q.1 = .ok (q.2.1, q.2.2.1) ∧ q.2.2.2 = q.1 + q.2.2.1 := by decide +kernel
theorem dT_L_law_19 : ∀ q ∈ T_L_law_19, decode code q.1 = .ok (q.2.1, q.2.2.1) ∧ q.2.2.2 = q.1 + q.2.2.1 := by decide +kernel
theorem dT_L_law_20 : ∀ q ∈ T_L_law_20, decode code q.1 = .ok (q.2.1, q.2.2.1) ∧ q.2.2.2 = q.1 + q.2.2.1 := by decide +kernel
theorem dT_L_law_21 : ∀ q ∈ T_L_law_21, decode code q.1 = .ok (q.2.1, q.2.2.1) ∧ q.2.2.2 = q.1 + q.2.2.1 := by decide +kernel
theorem dT_L_law_22 : ∀ q ∈ T_L_law_22, decode code q.1 = .ok (q.2.1, q.2.2.1) ∧ q.2.2.2 = q.1 + q.2.2.1 := by decide +kernel
theorem dT_L_law_23 : ∀ q ∈ T_L_law_23, decode code q.1 = .ok (q.2.1, q.2.2.1) ∧ q.2.2.2 = q.1 + q.2.2.1 := by decide +kernel
set_option maxRecDepth 20000 in
theorem dT_L_law : ∀ q ∈ T_L_law, decode code q.1 = .ok (q.2.1, q.2.2.1) ∧ q.2.2.2 = q.1 + q.2.2.1 := by
  show ∀ q ∈ (T_L_law_0 ++ (T_L_law_1 ++ (T_L_law_2 ++ (T_L_law_3 ++ (T_L_law_4 ++ (T_L_law_5 ++ (T_L_law_6 ++ (T_L_law_7 ++ (T_L_law_8 ++ (T_L_law_9 ++ (T_L_law_10 ++ (T_L_law_11 ++ (T_L_law_12 ++ (T_L_law_13 ++ (T_L_law_14 ++ (T_L_law_15 ++ (T_L_law_16 ++ (T_L_law_17 ++ (T_L_law_18 ++ (T_L_law_19 ++ (T_L_law_20 ++ (T_L_law_21 ++ (T_L_law_22 ++ (T_L_law_23)))))))))))))))))))))))), decode code q.1 = .ok (q.2.1, q.2.2.1) ∧ q.2.2.2 = q.1 + q.2.2.1
  exact List.forall_mem_append.mpr ⟨dT_L_law_0, List.forall_mem_append.mpr ⟨dT_L_law_1, List.forall_mem_append.mpr ⟨dT_L_law_2, List.forall_mem_append.mpr ⟨dT_L_law_3, List.forall_mem_append.mpr ⟨dT_L_law_4, List.forall_mem_append.mpr ⟨dT_L_law_5, List.forall_mem_append.mpr ⟨dT_L_law_6, List.forall_mem_append.mpr ⟨dT_L_law_7, List.forall_mem_append.mpr ⟨dT_L_law_8, List.forall_mem_append.mpr ⟨dT_L_law_9, List.forall_mem_append.mpr ⟨dT_L_law_10, List.forall_mem_append.mpr ⟨dT_L_law_11, List.forall_mem_append.mpr ⟨dT_L_law_12, List.forall_mem_append.mpr ⟨dT_L_law_13, List.forall_mem_append.mpr ⟨dT_L_law_14, List.forall_mem_append.mpr ⟨dT_L_law_15, List.forall_mem_append.mpr ⟨dT_L_law_16, List.forall_mem_append.mpr ⟨dT_L_law_17, List.forall_mem_append.mpr ⟨dT_L_law_18, List.forall_mem_append.mpr ⟨dT_L_law_19, List.forall_mem_append.mpr ⟨dT_L_law_20, List.forall_mem_append.mpr ⟨dT_L_law_21, List.forall_mem_append.mpr ⟨dT_L_law_22, dT_L_law_23⟩⟩⟩⟩⟩⟩⟩⟩⟩⟩⟩⟩⟩⟩⟩⟩⟩⟩⟩⟩⟩⟩⟩
noncomputable def f_L_law_1323 (xn : Nat) (xs9 : Nat → Int32) (k_18 : XM → Option Nat → Option Nat → Int32 → Option (Int32 × XM)) (h : XM) (l1 : Option Nat) (l2 : Option Nat) (l3 : Int32) : Option (Int32 × XM) := bnd (l3 + (7 : Int32)) fun v1 => k_18 h l1 l2 v1
noncomputable def fb_L_law_18 (xn : Nat) (xs9 : Nat → Int32) (k_18 : XM → Option Nat → Option Nat → Int32 → Option (Int32 × XM)) (h : XM) (l1 : Option Nat) (l2 : Option Nat) (l3 : Int32) : Option (Int32 × XM) := if ((nI xn) - ((7 : Int32))) < l3 then (rz h ((1 : Int32))) else ((rS xn xs9 l3).bind fun v3 => bnd (v3 &&& ((63 : Int32))) fun v4 => if v4 = (0 : Int32) then ((rS xn xs9 (l3 + ((1 : Int32)))).bind fun v5 => (rS xn xs9 (l3 + ((2 : Int32)))).bind fun v6 => (vc h 8 l1 (f_X8_set h l1 v5 v6)).bind fun q7 => (rS xn xs9 (l3 + ((1 : Int32)))).bind fun v8 => (rS xn xs9 (l3 + ((2 : Int32)))).bind fun v9 => (vc q7.2 9 l2 (f_X9_set q7.2 l2 v8 v9)).bind fun q10 => if q7.1 = q10.1 then (f_L_law_1323 xn xs9 k_18 q10.2 l1 l2 l3) else (rz q10.2 ((0 : Int32)))) else (if v4 = (1 : Int32) then ((vc h 8 l1 (f_X8_come h l1)).bind fun q11 => (vc q11.2 9 l2 (f_X9_come q11.2 l2)).bind fun q12 => if q11.1 = q12.1 then (f_L_law_1323 xn xs9 k_18 q12.2 l1 l2 l3) else (rz q12.2 ((0 : Int32)))) else (if v4 = (2 : Int32) then ((rS xn xs9 (l3 + ((1 : Int32)))).bind fun v13 => (rS xn xs9 (l3 + ((2 : Int32)))).bind fun v14 => (vc h 8 l1 (f_X8_stand h l1 v13 v14)).bind fun q15 => (rS xn xs9 (l3 + ((1 : Int32)))).bind fun v16 => (rS xn xs9 (l3 + ((2 : Int32)))).bind fun v17 => (vc q15.2 9 l2 (f_X9_stand q15.2 l2 v16 v17)).bind fun q18 => if q15.1 = q18.1 then (f_L_law_1323 xn xs9 k_18 q18.2 l1 l2 l3) else (rz q18.2 ((0 : Int32)))) else (if v4 = (3 : Int32) then ((rS xn xs9 (l3 + ((1 : Int32)))).bind fun v19 => (vc h 8 l1 (f_X8_count h l1 v19)).bind fun q20 => (rS xn xs9 (l3 + ((1 : Int32)))).bind fun v21 => (vc q20.2 9 l2 (f_X9_count q20.2 l2 v21)).bind fun q22 => if q20.1 = q22.1 then (f_L_law_1323 xn xs9 k_18 q22.2 l1 l2 l3) else (rz q22.2 ((0 : Int32)))) else (if v4 = (4 : Int32) then ((rS xn xs9 (l3 + ((1 : Int32)))).bind fun v23 => (rS xn xs9 (l3 + ((2 : Int32)))).bind fun v24 => (rS xn xs9 (l3 + ((3 : Int32)))).bind fun v25 => (rS xn xs9 (l3 + ((4 : Int32)))).bind fun v26 => (rS xn xs9 (l3 + ((5 : Int32)))).bind fun v27 => (rS xn xs9 (l3 + ((6 : Int32)))).bind fun v28 => (vc h 8 l1 (f_X8_feed h l1 v23 v24 v25 v26 v27 v28)).bind fun q29 => (rS xn xs9 (l3 + ((1 : Int32)))).bind fun v30 => (rS xn xs9 (l3 + ((2 : Int32)))).bind fun v31 => (rS xn xs9 (l3 + ((3 : Int32)))).bind fun v32 => (rS xn xs9 (l3 + ((4 : Int32)))).bind fun v33 => (rS xn xs9 (l3 + ((5 : Int32)))).bind fun v34 => (rS xn xs9 (l3 + ((6 : Int32)))).bind fun v35 => (vc q29.2 9 l2 (f_X9_feed q29.2 l2 v30 v31 v32 v33 v34 v35)).bind fun q36 => if q29.1 = q36.1 then (f_L_law_1323 xn xs9 k_18 q36.2 l1 l2 l3) else (rz q36.2 ((0 : Int32)))) else (if v4 = (5 : Int32) then ((vc h 8 l1 (f_X8_text h l1)).bind fun q37 => (vc q37.2 9 l2 (f_X9_text q37.2 l2)).bind fun q38 => if q37.1 = q38.1 then (f_L_law_1323 xn xs9 k_18 q38.2 l1 l2 l3) else (rz q38.2 ((0 : Int32)))) else (if v4 = (6 : Int32) then ((rS xn xs9 (l3 + ((1 : Int32)))).bind fun v39 => (vc h 8 l1 (f_X8_force h l1 v39)).bind fun q40 => (rS xn xs9 (l3 + ((1 : Int32)))).bind fun v41 => (vc q40.2 9 l2 (f_X9_force q40.2 l2 v41)).bind fun q42 => if q40.1 = q42.1 then (f_L_law_1323 xn xs9 k_18 q42.2 l1 l2 l3) else (rz q42.2 ((0 : Int32)))) else (if v4 = (7 : Int32) then ((rS xn xs9 (l3 + ((1 : Int32)))).bind fun v43 => (rS xn xs9 (l3 + ((2 : Int32)))).bind fun v44 => (rS xn xs9 (l3 + ((3 : Int32)))).bind fun v45 => (rS xn xs9 (l3 + ((4 : Int32)))).bind fun v46 => (rS xn xs9 (l3 + ((5 : Int32)))).bind fun v47 => (vc h 8 l1 (f_X8_asks h l1 v43 v44 v45 v46 v47)).bind fun q48 => (rS xn xs9 (l3 + ((1 : Int32)))).bind fun v49 => (rS xn xs9 (l3 + ((2 : Int32)))).bind fun v50 => (rS xn xs9 (l3 + ((3 : Int32)))).bind fun v51 => (rS xn xs9 (l3 + ((4 : Int32)))).bind fun v52 => (rS xn xs9 (l3 + ((5 : Int32)))).bind fun v53 => (vc q48.2 9 l2 (f_X9_asks q48.2 l2 v49 v50 v51 v52 v53)).bind fun q54 => if q48.1 = q54.1 then (f_L_law_1323 xn xs9 k_18 q54.2 l1 l2 l3) else (rz q54.2 ((0 : Int32)))) else (if v4 = (8 : Int32) then ((rS xn xs9 (l3 + ((1 : Int32)))).bind fun v55 => (rS xn xs9 (l3 + ((2 : Int32)))).bind fun v56 => (rS xn xs9 (l3 + ((3 : Int32)))).bind fun v57 => (rS xn xs9 (l3 + ((4 : Int32)))).bind fun v58 => (vc h 8 l1 (f_X8_coin h l1 v55 v56 v57 v58)).bind fun q59 => (rS xn xs9 (l3 + ((1 : Int32)))).bind fun v60 => (rS xn xs9 (l3 + ((2 : Int32)))).bind fun v61 => (rS xn xs9 (l3 + ((3 : Int32)))).bind fun v62 => (rS xn xs9 (l3 + ((4 : Int32)))).bind fun v63 => (vc q59.2 9 l2 (f_X9_coin q59.2 l2 v60 v61 v62 v63)).bind fun q64 => if q59.1 = q64.1 then (f_L_law_1323 xn xs9 k_18 q64.2 l1 l2 l3) else (rz q64.2 ((0 : Int32)))) else (if v4 = (9 : Int32) then ((rS xn xs9 (l3 + ((1 : Int32)))).bind fun v65 => (rS xn xs9 (l3 + ((2 : Int32)))).bind fun v66 => (vc h 8 l1 (f_X8_sell h l1 v65 v66)).bind fun q67 => (rS xn xs9 (l3 + ((1 : Int32)))).bind fun v68 => (rS xn xs9 (l3 + ((2 : Int32)))).bind fun v69 => (vc q67.2 9 l2 (f_X9_sell q67.2 l2 v68 v69)).bind fun q70 => if q67.1 = q70.1 then (f_L_law_1323 xn xs9 k_18 q70.2 l1 l2 l3) else (rz q70.2 ((0 : Int32)))) else (if v4 = (10 : Int32) then ((rS xn xs9 (l3 + ((1 : Int32)))).bind fun v71 => (rS xn xs9 (l3 + ((2 : Int32)))).bind fun v72 => (vc h 8 l1 (f_X8_told h l1 v71 v72)).bind fun q73 => (rS xn xs9 (l3 + ((1 : Int32)))).bind fun v74 => (rS xn xs9 (l3 + ((2 : Int32)))).bind fun v75 => (vc q73.2 9 l2 (f_X9_told q73.2 l2 v74 v75)).bind fun q76 => if q73.1 = q76.1 then (f_L_law_1323 xn xs9 k_18 q76.2 l1 l2 l3) else (rz q76.2 ((0 : Int32)))) else (if v4 = (11 : Int32) then ((rS xn xs9 (l3 + ((1 : Int32)))).bind fun v77 => (vc h 8 l1 (f_X8_put h l1 v77)).bind fun q78 => (rS xn xs9 (l3 + ((1 : Int32)))).bind fun v79 => (vc q78.2 9 l2 (f_X9_put q78.2 l2 v79)).bind fun q80 => if q78.1 = q80.1 then (f_L_law_1323 xn xs9 k_18 q80.2 l1 l2 l3) else (rz q80.2 ((0 : Int32)))) else (if v4 = (12 : Int32) then ((rS xn xs9 (l3 + ((1 : Int32)))).bind fun v81 => (vc h 8 l1 (f_X8_worth h l1 v81)).bind fun q82 => (rS xn xs9 (l3 + ((1 : Int32)))).bind fun v83 => (vc q82.2 9 l2 (f_X9_worth q82.2 l2 v83)).bind fun q84 => if q82.1 = q84.1 then (f_L_law_1323 xn xs9 k_18 q84.2 l1 l2 l3) else (rz q84.2 ((0 : Int32)))) else (if v4 = (13 : Int32) then ((rS xn xs9 (l3 + ((1 : Int32)))).bind fun v85 => (rS xn xs9 (l3 + ((2 : Int32)))).bind fun v86 => (vc h 8 l1 (f_X8_gang h l1 v85 v86)).bind fun q87 => (rS xn xs9 (l3 + ((1 : Int32)))).bind fun v88 => (rS xn xs9 (l3 + ((2 : Int32)))).bind fun v89 => (vc q87.2 9 l2 (f_X9_gang q87.2 l2 v88 v89)).bind fun q90 => if q87.1 = q90.1 then (f_L_law_1323 xn xs9 k_18 q90.2 l1 l2 l3) else (rz q90.2 ((0 : Int32)))) else (if v4 = (14 : Int32) then ((rS xn xs9 (l3 + ((1 : Int32)))).bind fun v91 => (rS xn xs9 (l3 + ((2 : Int32)))).bind fun v92 => (vc h 8 l1 (f_X8_spare h l1 v91 v92)).bind fun q93 => (rS xn xs9 (l3 + ((1 : Int32)))).bind fun v94 => (rS xn xs9 (l3 + ((2 : Int32)))).bind fun v95 => (vc q93.2 9 l2 (f_X9_spare q93.2 l2 v94 v95)).bind fun q96 => if q93.1 = q96.1 then (f_L_law_1323 xn xs9 k_18 q96.2 l1 l2 l3) else (rz q96.2 ((0 : Int32)))) else (if v4 = (15 : Int32) then ((rS xn xs9 (l3 + ((1 : Int32)))).bind fun v97 => (vc h 8 l1 (f_X8_reach h l1 v97)).bind fun q98 => (rS xn xs9 (l3 + ((1 : Int32)))).bind fun v99 => (vc q98.2 9 l2 (f_X9_reach q98.2 l2 v99)).bind fun q100 => if q98.1 = q100.1 then (f_L_law_1323 xn xs9 k_18 q100.2 l1 l2 l3) else (rz q100.2 ((0 : Int32)))) else (if v4 = (16 : Int32) then ((vc h 8 l1 (f_X8_keys h l1)).bind fun q101 => (vc q101.2 9 l2 (f_X9_keys q101.2 l2)).bind fun q102 => if q101.1 = q102.1 then (f_L_law_1323 xn xs9 k_18 q102.2 l1 l2 l3) else (rz q102.2 ((0 : Int32)))) else (if v4 = (17 : Int32) then ((vc h 8 l1 (f_X8_gifts h l1)).bind fun q103 => (vc q103.2 9 l2 (f_X9_gifts q103.2 l2)).bind fun q104 => if q103.1 = q104.1 then (f_L_law_1323 xn xs9 k_18 q104.2 l1 l2 l3) else (rz q104.2 ((0 : Int32)))) else (if v4 = (18 : Int32) then ((rS xn xs9 (l3 + ((1 : Int32)))).bind fun v105 => (rS xn xs9 (l3 + ((2 : Int32)))).bind fun v106 => (vc h 8 l1 (f_X8_rest h l1 v105 v106)).bind fun q107 => (rS xn xs9 (l3 + ((1 : Int32)))).bind fun v108 => (rS xn xs9 (l3 + ((2 : Int32)))).bind fun v109 => (vc q107.2 9 l2 (f_X9_rest q107.2 l2 v108 v109)).bind fun q110 => if q107.1 = q110.1 then (f_L_law_1323 xn xs9 k_18 q110.2 l1 l2 l3) else (rz q110.2 ((0 : Int32)))) else (if v4 = (19 : Int32) then ((rS xn xs9 (l3 + ((1 : Int32)))).bind fun v111 => (vc h 8 l1 (f_X8_moves h l1 v111)).bind fun q112 => (rS xn xs9 (l3 + ((1 : Int32)))).bind fun v113 => (vc q112.2 9 l2 (f_X9_moves q112.2 l2 v113)).bind fun q114 => if q112.1 = q114.1 then (f_L_law_1323 xn xs9 k_18 q114.2 l1 l2 l3) else (rz q114.2 ((0 : Int32)))) else (if v4 = (20 : Int32) then ((rS xn xs9 (l3 + ((1 : Int32)))).bind fun v115 => (vc h 8 l1 (f_X8_play h l1 v115)).bind fun q116 => (rS xn xs9 (l3 + ((1 : Int32)))).bind fun v117 => (vc q116.2 9 l2 (f_X9_play q116.2 l2 v117)).bind fun q118 => if q116.1 = q118.1 then (f_L_law_1323 xn xs9 k_18 q118.2 l1 l2 l3) else (rz q118.2 ((0 : Int32)))) else (if v4 = (21 : Int32) then ((rS xn xs9 (l3 + ((1 : Int32)))).bind fun v119 => (rS xn xs9 (l3 + ((2 : Int32)))).bind fun v120 => (vc h 8 l1 (f_X8_which h l1 v119 v120)).bind fun q121 => (rS xn xs9 (l3 + ((1 : Int32)))).bind fun v122 => (rS xn xs9 (l3 + ((2 : Int32)))).bind fun v123 => (vc q121.2 9 l2 (f_X9_which q121.2 l2 v122 v123)).bind fun q124 => if q121.1 = q124.1 then (f_L_law_1323 xn xs9 k_18 q124.2 l1 l2 l3) else (rz q124.2 ((0 : Int32)))) else (if v4 = (22 : Int32) then ((rS xn xs9 (l3 + ((1 : Int32)))).bind fun v125 => (rS xn xs9 (l3 + ((2 : Int32)))).bind fun v126 => (rS xn xs9 (l3 + ((3 : Int32)))).bind fun v127 => (vc h 8 l1 (f_X8_next h l1 v125 v126 v127)).bind fun q128 => (rS xn xs9 (l3 + ((1 : Int32)))).bind fun v129 => (rS xn xs9 (l3 + ((2 : Int32)))).bind fun v130 => (rS xn xs9 (l3 + ((3 : Int32)))).bind fun v131 => (vc q128.2 9 l2 (f_X9_next_ q128.2 l2 v129 v130 v131)).bind fun q132 => if q128.1 = q132.1 then (f_L_law_1323 xn xs9 k_18 q132.2 l1 l2 l3) else (rz q132.2 ((0 : Int32)))) else (if v4 = (23 : Int32) then ((rS xn xs9 (l3 + ((1 : Int32)))).bind fun v133 => (vc h 8 l1 (f_X8_judge h l1 v133)).bind fun q134 => (rS xn xs9 (l3 + ((1 : Int32)))).bind fun v135 => (vc q134.2 9 l2 (f_X9_judge q134.2 l2 v135)).bind fun q136 => if q134.1 = q136.1 then (f_L_law_1323 xn xs9 k_18 q136.2 l1 l2 l3) else (rz q136.2 ((0 : Int32)))) else (if v4 = (24 : Int32) then ((rS xn xs9 (l3 + ((1 : Int32)))).bind fun v137 => (vc h 8 l1 (f_X8_laws h l1 v137)).bind fun q138 => (rS xn xs9 (l3 + ((1 : Int32)))).bind fun v139 => (vc q138.2 9 l2 (f_X9_laws q138.2 l2 v139)).bind fun q140 => if q138.1 = q140.1 then (f_L_law_1323 xn xs9 k_18 q140.2 l1 l2 l3) else (rz q140.2 ((0 : Int32)))) else (if v4 = (25 : Int32) then ((rS xn xs9 (l3 + ((1 : Int32)))).bind fun v141 => (vc h 8 l1 (f_X8_numbers h l1 v141)).bind fun q142 => (rS xn xs9 (l3 + ((1 : Int32)))).bind fun v143 => (vc q142.2 9 l2 (f_X9_numbers q142.2 l2 v143)).bind fun q144 => if q142.1 = q144.1 then (f_L_law_1323 xn xs9 k_18 q144.2 l1 l2 l3) else (rz q144.2 ((0 : Int32)))) else (if v4 = (26 : Int32) then ((rS xn xs9 (l3 + ((1 : Int32)))).bind fun v145 => (vc h 8 l1 (f_X8_film h l1 v145)).bind fun q146 => (rS xn xs9 (l3 + ((1 : Int32)))).bind fun v147 => (vc q146.2 9 l2 (f_X9_film q146.2 l2 v147)).bind fun q148 => if q146.1 = q148.1 then (f_L_law_1323 xn xs9 k_18 q148.2 l1 l2 l3) else (rz q148.2 ((0 : Int32)))) else (if v4 = (27 : Int32) then ((rS xn xs9 (l3 + ((1 : Int32)))).bind fun v149 => (vc h 8 l1 (f_X8_drawn h l1 v149)).bind fun q150 => (rS xn xs9 (l3 + ((1 : Int32)))).bind fun v151 => (vc q150.2 9 l2 (f_X9_drawn q150.2 l2 v151)).bind fun q152 => if q150.1 = q152.1 then (f_L_law_1323 xn xs9 k_18 q152.2 l1 l2 l3) else (rz q152.2 ((0 : Int32)))) else (if v4 = (28 : Int32) then ((rS xn xs9 (l3 + ((1 : Int32)))).bind fun v153 => (rS xn xs9 (l3 + ((2 : Int32)))).bind fun v154 => (rS xn xs9 (l3 + ((3 : Int32)))).bind fun v155 => (vc h 8 l1 (f_X8_mean h l1 v153 v154 v155)).bind fun q156 => (rS xn xs9 (l3 + ((1 : Int32)))).bind fun v157 => (rS xn xs9 (l3 + ((2 : Int32)))).bind fun v158 => (rS xn xs9 (l3 + ((3 : Int32)))).bind fun v159 => (vc q156.2 9 l2 (f_X9_mean q156.2 l2 v157 v158 v159)).bind fun q160 => if (lg_cmp q156.1 q160.1) = 0 then (f_L_law_1323 xn xs9 k_18 q160.2 l1 l2 l3) else (rz q160.2 ((0 : Int32)))) else (if v4 = (29 : Int32) then ((vc h 8 l1 (f_X8_image h l1)).bind fun q161 => (vc q161.2 9 l2 (f_X9_image q161.2 l2)).bind fun q162 => if q161.1 = q162.1 then (f_L_law_1323 xn xs9 k_18 q162.2 l1 l2 l3) else (rz q162.2 ((0 : Int32)))) else (if v4 = (30 : Int32) then ((vc h 8 l1 (f_X8_back h l1)).bind fun q163 => (vc q163.2 9 l2 (f_X9_back q163.2 l2)).bind fun q164 => if q163.1 = q164.1 then (f_L_law_1323 xn xs9 k_18 q164.2 l1 l2 l3) else (rz q164.2 ((0 : Int32)))) else (if v4 = (31 : Int32) then ((rS xn xs9 (l3 + ((1 : Int32)))).bind fun v165 => (rS xn xs9 (l3 + ((2 : Int32)))).bind fun v166 => (rS xn xs9 (l3 + ((3 : Int32)))).bind fun v167 => (vc h 8 l1 (f_X8_sheet h l1 v165 v166 v167)).bind fun q168 => (rS xn xs9 (l3 + ((1 : Int32)))).bind fun v169 => (rS xn xs9 (l3 + ((2 : Int32)))).bind fun v170 => (rS xn xs9 (l3 + ((3 : Int32)))).bind fun v171 => (vc q168.2 9 l2 (f_X9_sheet q168.2 l2 v169 v170 v171)).bind fun q172 => if q168.1 = q172.1 then (f_L_law_1323 xn xs9 k_18 q172.2 l1 l2 l3) else (rz q172.2 ((0 : Int32)))) else (if v4 = (32 : Int32) then ((rS xn xs9 (l3 + ((1 : Int32)))).bind fun v173 => (rS xn xs9 (l3 + ((2 : Int32)))).bind fun v174 => (rS xn xs9 (l3 + ((3 : Int32)))).bind fun v175 => (vc h 8 l1 (f_X8_cell h l1 v173 v174 v175)).bind fun q176 => (rS xn xs9 (l3 + ((1 : Int32)))).bind fun v177 => (rS xn xs9 (l3 + ((2 : Int32)))).bind fun v178 => (rS xn xs9 (l3 + ((3 : Int32)))).bind fun v179 => (vc q176.2 9 l2 (f_X9_cell q176.2 l2 v177 v178 v179)).bind fun q180 => if q176.1 = q180.1 then (f_L_law_1323 xn xs9 k_18 q180.2 l1 l2 l3) else (rz q180.2 ((0 : Int32)))) else (if v4 = (33 : Int32) then ((rS xn xs9 (l3 + ((1 : Int32)))).bind fun v181 => (rS xn xs9 (l3 + ((2 : Int32)))).bind fun v182 => (rS xn xs9 (l3 + ((3 : Int32)))).bind fun v183 => (rS xn xs9 (l3 + ((4 : Int32)))).bind fun v184 => (rS xn xs9 (l3 + ((5 : Int32)))).bind fun v185 => (vc h 8 l1 (f_X8_copy h l1 v181 v182 v183 v184 v185)).bind fun q186 => (rS xn xs9 (l3 + ((1 : Int32)))).bind fun v187 => (rS xn xs9 (l3 + ((2 : Int32)))).bind fun v188 => (rS xn xs9 (l3 + ((3 : Int32)))).bind fun v189 => (rS xn xs9 (l3 + ((4 : Int32)))).bind fun v190 => (rS xn xs9 (l3 + ((5 : Int32)))).bind fun v191 => (vc q186.2 9 l2 (f_X9_copy q186.2 l2 v187 v188 v189 v190 v191)).bind fun q192 => if q186.1 = q192.1 then (f_L_law_1323 xn xs9 k_18 q192.2 l1 l2 l3) else (rz q192.2 ((0 : Int32)))) else (if v4 = (34 : Int32) then ((rS xn xs9 (l3 + ((1 : Int32)))).bind fun v193 => (rS xn xs9 (l3 + ((2 : Int32)))).bind fun v194 => (rS xn xs9 (l3 + ((3 : Int32)))).bind fun v195 => (rS xn xs9 (l3 + ((4 : Int32)))).bind fun v196 => (vc h 8 l1 (f_X8_coinsBy h l1 v193 v194 v195 v196)).bind fun q197 => (rS xn xs9 (l3 + ((1 : Int32)))).bind fun v198 => (rS xn xs9 (l3 + ((2 : Int32)))).bind fun v199 => (rS xn xs9 (l3 + ((3 : Int32)))).bind fun v200 => (rS xn xs9 (l3 + ((4 : Int32)))).bind fun v201 => (vc q197.2 9 l2 (f_X9_coinsBy q197.2 l2 v198 v199 v200 v201)).bind fun q202 => if q197.1 = q202.1 then (f_L_law_1323 xn xs9 k_18 q202.2 l1 l2 l3) else (rz q202.2 ((0 : Int32)))) else (if v4 = (35 : Int32) then ((rS xn xs9 (l3 + ((1 : Int32)))).bind fun v203 => (rS xn xs9 (l3 + ((2 : Int32)))).bind fun v204 => (vc h 8 l1 (f_X8_taken h l1 v203 v204)).bind fun q205 => (rS xn xs9 (l3 + ((1 : Int32)))).bind fun v206 => (rS xn xs9 (l3 + ((2 : Int32)))).bind fun v207 => (vc q205.2 9 l2 (f_X9_taken q205.2 l2 v206 v207)).bind fun q208 => if q205.1 = q208.1 then (f_L_law_1323 xn xs9 k_18 q208.2 l1 l2 l3) else (rz q208.2 ((0 : Int32)))) else (f_L_law_1323 xn xs9 k_18 h l1 l2 l3)))))))))))))))))))))))))))))))))))))
noncomputable def f_L_law_18 (xn : Nat) (xs9 : Nat → Int32) (n : Nat) : XM → Option Nat → Option Nat → Int32 → Option (Int32 × XM) := Nat.rec (motive := fun _ => XM → Option Nat → Option Nat → Int32 → Option (Int32 × XM)) (fun _ _ _ _ => none) (fun _ ih h l1 l2 l3 => fb_L_law_18 xn xs9 ih h l1 l2 l3) n
noncomputable def f_L_law (xn : Nat) (xs9 : Nat → Int32) (h : XM) : Option (Int32 × XM) := (nO h 8 11).bind fun h209 => (((some (xc h))).bind fun _ => f_X8_init h209 (some (xc h))).bind fun q210 => (nO q210 9 49).bind fun h211 => (((some (xc q210))).bind fun _ => f_X9_init h211 (some (xc q210))).bind fun q212 => f_L_law_18 xn xs9 514 q212 (some (xc h)) (some (xc q210)) ((0 : Int32))
set_option maxRecDepth 20000 in
theorem b_L_law_1323 (X : XX) (xn : Nat) (xs9 : Nat → Int32) (hX : xScr X xn xs9) (k_18 : XM → Option Nat → Option Nat → Int32 → Option (Int32 × XM)) (bc bs : Nat) (hb : 0 ≤ bc ∧ 0 ≤ bs) (hk_18 : ∀ h l1 l2 l3, SW X I_L_law ρi 18 [(0, tK 8), (1, tA l1), (2, tA l2), (3, tI l3)] [] h bc bs (k_18 h l1 l2 l3)) (h : XM) (l1 : Option Nat) (l2 : Option Nat) (l3 : Int32) : SW X I_L_law ρi 1323 [(0, tK 8), (1, tA l1), (2, tA l2), (3, tI l3)] [] h (0 + bc) (0 + bs) (f_L_law_1323 xn xs9 k_18 h l1 l2 l3) := by
  unfold f_L_law_1323
  refine s_inc (i := 935) rfl 3 rfl (c9 := (7 : Int32)) (by decide) (Nat.le_of_ble_eq_true rfl) (fun v1 => ?_)
  refine s_ls (ls2 := [(3, tI v1), (0, tK 8), (1, tA l1), (2, tA l2)]) rfl ?_
  refine s_bud (0 + bc) (0 + bs) (by omega) (by omega) ?_
  refine s_goto (i := 936) rfl (tgt := 18) (by decide) ?_
  refine s_bud bc bs (by omega) (by omega) ?_
  exact s_sub [1, 2, 3, 0] rfl (hk_18 h l1 l2 v1)
set_option maxRecDepth 20000 in
theorem bb_L_law_18 (X : XX) (xn : Nat) (xs9 : Nat → Int32) (hX : xScr X xn xs9) (k_18 : XM → Option Nat → Option Nat → Int32 → Option (Int32 × XM)) (bc bs : Nat) (hb : 0 ≤ bc ∧ 0 ≤ bs) (hk_18 : ∀ h l1 l2 l3, SW X I_L_law ρi 18 [(0, tK 8), (1, tA l1), (2, tA l2), (3, tI l3)] [] h bc bs (k_18 h l1 l2 l3)) (h : XM) (l1 : Option Nat) (l2 : Option Nat) (l3 : Int32) : SW X I_L_law ρi 18 [(0, tK 8), (1, tA l1), (2, tA l2), (3, tI l3)] [] h (9 + bc) (603 + bs) (fb_L_law_18 xn xs9 k_18 h l1 l2 l3) := by
  unfold fb_L_law_18
  refine s_iload_n (i := 10) rfl 3 rfl ?_
  refine s_bud (9 + bc) (603 + bs) (by omega) (by omega) ?_
  refine s_aloadK_n (i := 11) rfl 0 rfl ?_
  refine s_bud (9 + bc) (603 + bs) (by omega) (by omega) ?_
  refine s_alenS hX (i := 12) rfl ?_
  refine s_bud (9 + bc) (603 + bs) (by omega) (by omega) ?_
  refine s_bipush (i := 13) rfl (v := (7 : Int32)) (by decide) ?_
  refine s_bud (9 + bc) (603 + bs) (by omega) (by omega) ?_
  refine s_isub (i := 14) rfl ?_
  refine s_bud (9 + bc) (603 + bs) (by omega) (by omega) ?_
  refine s_icmpgt (i := 15) rfl (tgt := 1329) (by decide) (fun z24 => ?_) (fun z24 => ?_)
  · refine s_bud 0 0 (by omega) (by omega) ?_
    refine s_iconst (i := 937) rfl (v := (1 : Int32)) (by decide) ?_
    refine s_bud 0 0 (by omega) (by omega) ?_
    exact s_zret (i := 938) rfl rfl
  · refine s_bud (9 + bc) (603 + bs) (by omega) (by omega) ?_
    refine s_aloadK_n (i := 16) rfl 0 rfl ?_
    refine s_bud (9 + bc) (603 + bs) (by omega) (by omega) ?_
    refine s_iload_n (i := 17) rfl 3 rfl ?_
    refine s_bud (9 + bc) (603 + bs) (by omega) (by omega) ?_
    refine s_ialoadS hX (i := 18) rfl (fun v3 => ?_)
    refine s_bud (9 + bc) (603 + bs) (by omega) (by omega) ?_
    refine s_bipush (i := 19) rfl (v := (63 : Int32)) (by decide) ?_
    refine s_bud (9 + bc) (603 + bs) (by omega) (by omega) ?_
    refine s_iand (i := 20) rfl ?_
    refine s_bud (9 + bc) (603 + bs) (by omega) (by omega) ?_
    refine s_bnd (fun v4 => ?_)
    refine s_if (P := v4 = (0 : Int32)) (fun z33_0 => ?_) (fun z33_0 => ?_)
    · refine s_table 192 (i := 21) rfl rfl (by rw [z33_0]; rfl) ?_
      refine s_bud (0 + bc) (0 + bs) (by omega) (by omega) ?_
      refine s_aload_n (i := 22) rfl 1 rfl ?_
      refine s_bud (0 + bc) (0 + bs) (by omega) (by omega) ?_
      refine s_aloadK_n (i := 23) rfl 0 rfl ?_
      refine s_bud (0 + bc) (0 + bs) (by omega) (by omega) ?_
      refine s_iload_n (i := 24) rfl 3 rfl ?_
      refine s_bud (0 + bc) (0 + bs) (by omega) (by omega) ?_
      refine s_iconst (i := 25) rfl (v := (1 : Int32)) (by decide) ?_
      refine s_bud (0 + bc) (0 + bs) (by omega) (by omega) ?_
      refine s_iadd (i := 26) rfl ?_
      refine s_bud (0 + bc) (0 + bs) (by omega) (by omega) ?_
      refine s_ialoadS hX (i := 27) rfl (fun v5 => ?_)
      refine s_bud (0 + bc) (0 + bs) (by omega) (by omega) ?_
      refine s_aloadK_n (i := 28) rfl 0 rfl ?_
      refine s_bud (0 + bc) (0 + bs) (by omega) (by omega) ?_
      refine s_iload_n (i := 29) rfl 3 rfl ?_
      refine s_bud (0 + bc) (0 + bs) (by omega) (by omega) ?_
      refine s_iconst (i := 30) rfl (v := (2 : Int32)) (by decide) ?_
      refine s_bud (0 + bc) (0 + bs) (by omega) (by omega) ?_
      refine s_iadd (i := 31) rfl ?_
      refine s_bud (0 + bc) (0 + bs) (by omega) (by omega) ?_
      refine s_ialoadS hX (i := 32) rfl (fun v6 => ?_)
      refine s_bud (0 + bc) (0 + bs) (by omega) (by omega) ?_
      refine u_callVi (kk := 8) [tI v5, tI v6] l1 [] rfl (i := 33) rfl (c_X8_set h l1 v5 v6) xm_X8_set (tw500) rfl (Nat.le_of_ble_eq_true rfl) (xRm.of rfl) ⟨rfl, rfl⟩ (fun q7 => ?_)
      refine s_bud (0 + bc) (0 + bs) (by omega) (by omega) ?_
      refine s_aload_n (i := 34) rfl 2 rfl ?_
      refine s_bud (0 + bc) (0 + bs) (by omega) (by omega) ?_
      refine s_aloadK_n (i := 35) rfl 0 rfl ?_
      refine s_bud (0 + bc) (0 + bs) (by omega) (by omega) ?_
      refine s_iload_n (i := 36) rfl 3 rfl ?_
      refine s_bud (0 + bc) (0 + bs) (by omega) (by omega) ?_
      refine s_iconst (i := 37) rfl (v := (1 : Int32)) (by decide) ?_
      refine s_bud (0 + bc) (0 + bs) (by omega) (by omega) ?_
      refine s_iadd (i := 38) rfl ?_
      refine s_bud (0 + bc) (0 + bs) (by omega) (by omega) ?_
      refine s_ialoadS hX (i := 39) rfl (fun v8 => ?_)
      refine s_bud (0 + bc) (0 + bs) (by omega) (by omega) ?_
      refine s_aloadK_n (i := 40) rfl 0 rfl ?_
      refine s_bud (0 + bc) (0 + bs) (by omega) (by omega) ?_
      refine s_iload_n (i := 41) rfl 3 rfl ?_
      refine s_bud (0 + bc) (0 + bs) (by omega) (by omega) ?_
      refine s_iconst (i := 42) rfl (v := (2 : Int32)) (by decide) ?_
      refine s_bud (0 + bc) (0 + bs) (by omega) (by omega) ?_
      refine s_iadd (i := 43) rfl ?_
      refine s_bud (0 + bc) (0 + bs) (by omega) (by omega) ?_
      refine s_ialoadS hX (i := 44) rfl (fun v9 => ?_)
      refine s_bud (0 + bc) (0 + bs) (by omega) (by omega) ?_
      refine u_callVi (kk := 9) [tI v8, tI v9] l2 [tI q7.1] rfl (i := 45) rfl (c_X9_set q7.2 l2 v8 v9) xm_X9_set (tw1162) rfl (Nat.le_of_ble_eq_true rfl) (xRm.of rfl) ⟨rfl, rfl⟩ (fun q10 => ?_)
      refine s_bud (0 + bc) (0 + bs) (by omega) (by omega) ?_
      refine s_icmpeq (i := 46) rfl (tgt := 1323) (by decide) (fun z220 => ?_) (fun z220 => ?_)
      · refine s_bud (0 + bc) (0 + bs) (by omega) (by omega) ?_
        exact s_sub [0, 1, 2, 3] rfl (b_L_law_1323 X xn xs9 hX k_18 bc bs hb hk_18 q10.2 l1 l2 l3)
      · refine s_bud 0 0 (by omega) (by omega) ?_
        refine s_iconst (i := 47) rfl (v := (0 : Int32)) (by decide) ?_
        refine s_bud 0 0 (by omega) (by omega) ?_
        exact s_zret (i := 48) rfl rfl
    refine s_if (P := v4 = (1 : Int32)) (fun z33_1 => ?_) (fun z33_1 => ?_)
    · refine s_table 225 (i := 21) rfl rfl (by rw [z33_1]; rfl) ?_
      refine s_bud (0 + bc) (0 + bs) (by omega) (by omega) ?_
      refine s_aload_n (i := 49) rfl 1 rfl ?_
      refine s_bud (0 + bc) (0 + bs) (by omega) (by omega) ?_
      refine u_callVi (kk := 8) [] l1 [] rfl (i := 50) rfl (c_X8_come h l1) xm_X8_come (tw508) rfl (Nat.le_of_ble_eq_true rfl) (xRm.of rfl) ⟨rfl, rfl⟩ (fun q11 => ?_)
      refine s_bud (0 + bc) (0 + bs) (by omega) (by omega) ?_
      refine s_aload_n (i := 51) rfl 2 rfl ?_
      refine s_bud (0 + bc) (0 + bs) (by omega) (by omega) ?_
      refine u_callVi (kk := 9) [] l2 [tI q11.1] rfl (i := 52) rfl (c_X9_come q11.2 l2) xm_X9_come (tw1166) rfl (Nat.le_of_ble_eq_true rfl) (xRm.of rfl) ⟨rfl, rfl⟩ (fun q12 => ?_)
      refine s_bud (0 + bc) (0 + bs) (by omega) (by omega) ?_
      refine s_icmpeq (i := 53) rfl (tgt := 1323) (by decide) (fun z233 => ?_) (fun z233 => ?_)
      · refine s_bud (0 + bc) (0 + bs) (by omega) (by omega) ?_
        exact s_sub [0, 1, 2, 3] rfl (b_L_law_1323 X xn xs9 hX k_18 bc bs hb hk_18 q12.2 l1 l2 l3)
      · refine s_bud 0 0 (by omega) (by omega) ?_
        refine s_iconst (i := 54) rfl (v := (0 : Int32)) (by decide) ?_
        refine s_bud 0 0 (by omega) (by omega) ?_
        exact s_zret (i := 55) rfl rfl
    refine s_if (P := v4 = (2 : Int32)) (fun z33_2 => ?_) (fun z33_2 => ?_)
    · refine s_table 238 (i := 21) rfl rfl (by rw [z33_2]; rfl) ?_
      refine s_bud (0 + bc) (0 + bs) (by omega) (by omega) ?_
      refine s_aload_n (i := 56) rfl 1 rfl ?_
      refine s_bud (0 + bc) (0 + bs) (by omega) (by omega) ?_
      refine s_aloadK_n (i := 57) rfl 0 rfl ?_
      refine s_bud (0 + bc) (0 + bs) (by omega) (by omega) ?_
      refine s_iload_n (i := 58) rfl 3 rfl ?_
      refine s_bud (0 + bc) (0 + bs) (by omega) (by omega) ?_
      refine s_iconst (i := 59) rfl (v := (1 : Int32)) (by decide) ?_
      refine s_bud (0 + bc) (0 + bs) (by omega) (by omega) ?_
      refine s_iadd (i := 60) rfl ?_
      refine s_bud (0 + bc) (0 + bs) (by omega) (by omega) ?_
      refine s_ialoadS hX (i := 61) rfl (fun v13 => ?_)
      refine s_bud (0 + bc) (0 + bs) (by omega) (by omega) ?_
      refine s_aloadK_n (i := 62) rfl 0 rfl ?_
      refine s_bud (0 + bc) (0 + bs) (by omega) (by omega) ?_
      refine s_iload_n (i := 63) rfl 3 rfl ?_
      refine s_bud (0 + bc) (0 + bs) (by omega) (by omega) ?_
      refine s_iconst (i := 64) rfl (v := (2 : Int32)) (by decide) ?_
      refine s_bud (0 + bc) (0 + bs) (by omega) (by omega) ?_
      refine s_iadd (i := 65) rfl ?_
      refine s_bud (0 + bc) (0 + bs) (by omega) (by omega) ?_
      refine s_ialoadS hX (i := 66) rfl (fun v14 => ?_)
      refine s_bud (0 + bc) (0 + bs) (by omega) (by omega) ?_
      refine u_callVi (kk := 8) [tI v13, tI v14] l1 [] rfl (i := 67) rfl (c_X8_stand h l1 v13 v14) xm_X8_stand (tw512) rfl (Nat.le_of_ble_eq_true rfl) (xRm.of rfl) ⟨rfl, rfl⟩ (fun q15 => ?_)
      refine s_bud (0 + bc) (0 + bs) (by omega) (by omega) ?_
      refine s_aload_n (i := 68) rfl 2 rfl ?_
      refine s_bud (0 + bc) (0 + bs) (by omega) (by omega) ?_
      refine s_aloadK_n (i := 69) rfl 0 rfl ?_
      refine s_bud (0 + bc) (0 + bs) (by omega) (by omega) ?_
      refine s_iload_n (i := 70) rfl 3 rfl ?_
      refine s_bud (0 + bc) (0 + bs) (by omega) (by omega) ?_
      refine s_iconst (i := 71) rfl (v := (1 : Int32)) (by decide) ?_
      refine s_bud (0 + bc) (0 + bs) (by omega) (by omega) ?_
      refine s_iadd (i := 72) rfl ?_
      refine s_bud (0 + bc) (0 + bs) (by omega) (by omega) ?_
      refine s_ialoadS hX (i := 73) rfl (fun v16 => ?_)
      refine s_bud (0 + bc) (0 + bs) (by omega) (by omega) ?_
      refine s_aloadK_n (i := 74) rfl 0 rfl ?_
      refine s_bud (0 + bc) (0 + bs) (by omega) (by omega) ?_
      refine s_iload_n (i := 75) rfl 3 rfl ?_
      refine s_bud (0 + bc) (0 + bs) (by omega) (by omega) ?_
      refine s_iconst (i := 76) rfl (v := (2 : Int32)) (by decide) ?_
      refine s_bud (0 + bc) (0 + bs) (by omega) (by omega) ?_
      refine s_iadd (i := 77) rfl ?_
      refine s_bud (0 + bc) (0 + bs) (by omega) (by omega) ?_
      refine s_ialoadS hX (i := 78) rfl (fun v17 => ?_)
      refine s_bud (0 + bc) (0 + bs) (by omega) (by omega) ?_
      refine u_callVi (kk := 9) [tI v16, tI v17] l2 [tI q15.1] rfl (i := 79) rfl (c_X9_stand q15.2 l2 v16 v17) xm_X9_stand (tw1170) rfl (Nat.le_of_ble_eq_true rfl) (xRm.of rfl) ⟨rfl, rfl⟩ (fun q18 => ?_)
      refine s_bud (0 + bc) (0 + bs) (by omega) (by omega) ?_
      refine s_icmpeq (i := 80) rfl (tgt := 1323) (by decide) (fun z266 => ?_) (fun z266 => ?_)
      · refine s_bud (0 + bc) (0 + bs) (by omega) (by omega) ?_
        exact s_sub [0, 1, 2, 3] rfl (b_L_law_1323 X xn xs9 hX k_18 bc bs hb hk_18 q18.2 l1 l2 l3)
      · refine s_bud 0 0 (by omega) (by omega) ?_
        refine s_iconst (i := 81) rfl (v := (0 : Int32)) (by decide) ?_
        refine s_bud 0 0 (by omega) (by omega) ?_
        exact s_zret (i := 82) rfl rfl
    refine s_if (P := v4 = (3 : Int32)) (fun z33_3 => ?_) (fun z33_3 => ?_)
    · refine s_table 271 (i := 21) rfl rfl (by rw [z33_3]; rfl) ?_
      refine s_bud (0 + bc) (0 + bs) (by omega) (by omega) ?_
      refine s_aload_n (i := 83) rfl 1 rfl ?_
      refine s_bud (0 + bc) (0 + bs) (by omega) (by omega) ?_
      refine s_aloadK_n (i := 84) rfl 0 rfl ?_
      refine s_bud (0 + bc) (0 + bs) (by omega) (by omega) ?_
      refine s_iload_n (i := 85) rfl 3 rfl ?_
      refine s_bud (0 + bc) (0 + bs) (by omega) (by omega) ?_
      refine s_iconst (i := 86) rfl (v := (1 : Int32)) (by decide) ?_
      refine s_bud (0 + bc) (0 + bs) (by omega) (by omega) ?_
      refine s_iadd (i := 87) rfl ?_
      refine s_bud (0 + bc) (0 + bs) (by omega) (by omega) ?_
      refine s_ialoadS hX (i := 88) rfl (fun v19 => ?_)
      refine s_bud (0 + bc) (0 + bs) (by omega) (by omega) ?_
      refine u_callVi (kk := 8) [tI v19] l1 [] rfl (i := 89) rfl (c_X8_count h l1 v19) xm_X8_count (tw524) rfl (Nat.le_of_ble_eq_true rfl) (xRm.of rfl) ⟨rfl, rfl⟩ (fun q20 => ?_)
      refine s_bud (0 + bc) (0 + bs) (by omega) (by omega) ?_
      refine s_aload_n (i := 90) rfl 2 rfl ?_
      refine s_bud (0 + bc) (0 + bs) (by omega) (by omega) ?_
      refine s_aloadK_n (i := 91) rfl 0 rfl ?_
      refine s_bud (0 + bc) (0 + bs) (by omega) (by omega) ?_
      refine s_iload_n (i := 92) rfl 3 rfl ?_
      refine s_bud (0 + bc) (0 + bs) (by omega) (by omega) ?_
      refine s_iconst (i := 93) rfl (v := (1 : Int32)) (by decide) ?_
      refine s_bud (0 + bc) (0 + bs) (by omega) (by omega) ?_
      refine s_iadd (i := 94) rfl ?_
      refine s_bud (0 + bc) (0 + bs) (by omega) (by omega) ?_
      refine s_ialoadS hX (i := 95) rfl (fun v21 => ?_)
      refine s_bud (0 + bc) (0 + bs) (by omega) (by omega) ?_
      refine u_callVi (kk := 9) [tI v21] l2 [tI q20.1] rfl (i := 96) rfl (c_X9_count q20.2 l2 v21) xm_X9_count (tw1178) rfl (Nat.le_of_ble_eq_true rfl) (xRm.of rfl) ⟨rfl, rfl⟩ (fun q22 => ?_)
      refine s_bud (0 + bc) (0 + bs) (by omega) (by omega) ?_
      refine s_icmpeq (i := 97) rfl (tgt := 1323) (by decide) (fun z289 => ?_) (fun z289 => ?_)
      · refine s_bud (0 + bc) (0 + bs) (by omega) (by omega) ?_
        exact s_sub [0, 1, 2, 3] rfl (b_L_law_1323 X xn xs9 hX k_18 bc bs hb hk_18 q22.2 l1 l2 l3)
      · refine s_bud 0 0 (by omega) (by omega) ?_
        refine s_iconst (i := 98) rfl (v := (0 : Int32)) (by decide) ?_
        refine s_bud 0 0 (by omega) (by omega) ?_
        exact s_zret (i := 99) rfl rfl
    refine s_if (P := v4 = (4 : Int32)) (fun z33_4 => ?_) (fun z33_4 => ?_)
    · refine s_table 294 (i := 21) rfl rfl (by rw [z33_4]; rfl) ?_
      refine s_bud (0 + bc) (0 + bs) (by omega) (by omega) ?_
      refine s_aload_n (i := 100) rfl 1 rfl ?_
      refine s_bud (0 + bc) (0 + bs) (by omega) (by omega) ?_
      refine s_aloadK_n (i := 101) rfl 0 rfl ?_
      refine s_bud (0 + bc) (0 + bs) (by omega) (by omega) ?_
      refine s_iload_n (i := 102) rfl 3 rfl ?_
      refine s_bud (0 + bc) (0 + bs) (by omega) (by omega) ?_
      refine s_iconst (i := 103) rfl (v := (1 : Int32)) (by decide) ?_
      refine s_bud (0 + bc) (0 + bs) (by omega) (by omega) ?_
      refine s_iadd (i := 104) rfl ?_
      refine s_bud (0 + bc) (0 + bs) (by omega) (by omega) ?_
      refine s_ialoadS hX (i := 105) rfl (fun v23 => ?_)
      refine s_bud (0 + bc) (0 + bs) (by omega) (by omega) ?_
      refine s_aloadK_n (i := 106) rfl 0 rfl ?_
      refine s_bud (0 + bc) (0 + bs) (by omega) (by omega) ?_
      refine s_iload_n (i := 107) rfl 3 rfl ?_
      refine s_bud (0 + bc) (0 + bs) (by omega) (by omega) ?_
      refine s_iconst (i := 108) rfl (v := (2 : Int32)) (by decide) ?_
      refine s_bud (0 + bc) (0 + bs) (by omega) (by omega) ?_
      refine s_iadd (i := 109) rfl ?_
      refine s_bud (0 + bc) (0 + bs) (by omega) (by omega) ?_
      refine s_ialoadS hX (i := 110) rfl (fun v24 => ?_)
      refine s_bud (0 + bc) (0 + bs) (by omega) (by omega) ?_
      refine s_aloadK_n (i := 111) rfl 0 rfl ?_
      refine s_bud (0 + bc) (0 + bs) (by omega) (by omega) ?_
      refine s_iload_n (i := 112) rfl 3 rfl ?_
      refine s_bud (0 + bc) (0 + bs) (by omega) (by omega) ?_
      refine s_iconst (i := 113) rfl (v := (3 : Int32)) (by decide) ?_
      refine s_bud (0 + bc) (0 + bs) (by omega) (by omega) ?_
      refine s_iadd (i := 114) rfl ?_
      refine s_bud (0 + bc) (0 + bs) (by omega) (by omega) ?_
      refine s_ialoadS hX (i := 115) rfl (fun v25 => ?_)
      refine s_bud (0 + bc) (0 + bs) (by omega) (by omega) ?_
      refine s_aloadK_n (i := 116) rfl 0 rfl ?_
      refine s_bud (0 + bc) (0 + bs) (by omega) (by omega) ?_
      refine s_iload_n (i := 117) rfl 3 rfl ?_
      refine s_bud (0 + bc) (0 + bs) (by omega) (by omega) ?_
      refine s_iconst (i := 118) rfl (v := (4 : Int32)) (by decide) ?_
      refine s_bud (0 + bc) (0 + bs) (by omega) (by omega) ?_
      refine s_iadd (i := 119) rfl ?_
      refine s_bud (0 + bc) (0 + bs) (by omega) (by omega) ?_
      refine s_ialoadS hX (i := 120) rfl (fun v26 => ?_)
      refine s_bud (0 + bc) (0 + bs) (by omega) (by omega) ?_
      refine s_aloadK_n (i := 121) rfl 0 rfl ?_
      refine s_bud (0 + bc) (0 + bs) (by omega) (by omega) ?_
      refine s_iload_n (i := 122) rfl 3 rfl ?_
      refine s_bud (0 + bc) (0 + bs) (by omega) (by omega) ?_
      refine s_iconst (i := 123) rfl (v := (5 : Int32)) (by decide) ?_
      refine s_bud (0 + bc) (0 + bs) (by omega) (by omega) ?_
      refine s_iadd (i := 124) rfl ?_
      refine s_bud (0 + bc) (0 + bs) (by omega) (by omega) ?_
      refine s_ialoadS hX (i := 125) rfl (fun v27 => ?_)
      refine s_bud (0 + bc) (0 + bs) (by omega) (by omega) ?_
      refine s_aloadK_n (i := 126) rfl 0 rfl ?_
      refine s_bud (0 + bc) (0 + bs) (by omega) (by omega) ?_
      refine s_iload_n (i := 127) rfl 3 rfl ?_
      refine s_bud (0 + bc) (0 + bs) (by omega) (by omega) ?_
      refine s_bipush (i := 128) rfl (v := (6 : Int32)) (by decide) ?_
      refine s_bud (0 + bc) (0 + bs) (by omega) (by omega) ?_
      refine s_iadd (i := 129) rfl ?_
      refine s_bud (0 + bc) (0 + bs) (by omega) (by omega) ?_
      refine s_ialoadS hX (i := 130) rfl (fun v28 => ?_)
      refine s_bud (0 + bc) (0 + bs) (by omega) (by omega) ?_
      refine u_callVi (kk := 8) [tI v23, tI v24, tI v25, tI v26, tI v27, tI v28] l1 [] rfl (i := 131) rfl (c_X8_feed h l1 v23 v24 v25 v26 v27 v28) xm_X8_feed (tw525) rfl (Nat.le_of_ble_eq_true rfl) (xRm.of rfl) ⟨rfl, rfl⟩ (fun q29 => ?_)
      refine s_bud (0 + bc) (0 + bs) (by omega) (by omega) ?_
      refine s_aload_n (i := 132) rfl 2 rfl ?_
      refine s_bud (0 + bc) (0 + bs) (by omega) (by omega) ?_
      refine s_aloadK_n (i := 133) rfl 0 rfl ?_
      refine s_bud (0 + bc) (0 + bs) (by omega) (by omega) ?_
      refine s_iload_n (i := 134) rfl 3 rfl ?_
      refine s_bud (0 + bc) (0 + bs) (by omega) (by omega) ?_
      refine s_iconst (i := 135) rfl (v := (1 : Int32)) (by decide) ?_
      refine s_bud (0 + bc) (0 + bs) (by omega) (by omega) ?_
      refine s_iadd (i := 136) rfl ?_
      refine s_bud (0 + bc) (0 + bs) (by omega) (by omega) ?_
      refine s_ialoadS hX (i := 137) rfl (fun v30 => ?_)
      refine s_bud (0 + bc) (0 + bs) (by omega) (by omega) ?_
      refine s_aloadK_n (i := 138) rfl 0 rfl ?_
      refine s_bud (0 + bc) (0 + bs) (by omega) (by omega) ?_
      refine s_iload_n (i := 139) rfl 3 rfl ?_
      refine s_bud (0 + bc) (0 + bs) (by omega) (by omega) ?_
      refine s_iconst (i := 140) rfl (v := (2 : Int32)) (by decide) ?_
      refine s_bud (0 + bc) (0 + bs) (by omega) (by omega) ?_
      refine s_iadd (i := 141) rfl ?_
      refine s_bud (0 + bc) (0 + bs) (by omega) (by omega) ?_
      refine s_ialoadS hX (i := 142) rfl (fun v31 => ?_)
      refine s_bud (0 + bc) (0 + bs) (by omega) (by omega) ?_
      refine s_aloadK_n (i := 143) rfl 0 rfl ?_
      refine s_bud (0 + bc) (0 + bs) (by omega) (by omega) ?_
      refine s_iload_n (i := 144) rfl 3 rfl ?_
      refine s_bud (0 + bc) (0 + bs) (by omega) (by omega) ?_
      refine s_iconst (i := 145) rfl (v := (3 : Int32)) (by decide) ?_
      refine s_bud (0 + bc) (0 + bs) (by omega) (by omega) ?_
      refine s_iadd (i := 146) rfl ?_
      refine s_bud (0 + bc) (0 + bs) (by omega) (by omega) ?_
      refine s_ialoadS hX (i := 147) rfl (fun v32 => ?_)
      refine s_bud (0 + bc) (0 + bs) (by omega) (by omega) ?_
      refine s_aloadK_n (i := 148) rfl 0 rfl ?_
      refine s_bud (0 + bc) (0 + bs) (by omega) (by omega) ?_
      refine s_iload_n (i := 149) rfl 3 rfl ?_
      refine s_bud (0 + bc) (0 + bs) (by omega) (by omega) ?_
      refine s_iconst (i := 150) rfl (v := (4 : Int32)) (by decide) ?_
      refine s_bud (0 + bc) (0 + bs) (by omega) (by omega) ?_
      refine s_iadd (i := 151) rfl ?_
      refine s_bud (0 + bc) (0 + bs) (by omega) (by omega) ?_
      refine s_ialoadS hX (i := 152) rfl (fun v33 => ?_)
      refine s_bud (0 + bc) (0 + bs) (by omega) (by omega) ?_
      refine s_aloadK_n (i := 153) rfl 0 rfl ?_
      refine s_bud (0 + bc) (0 + bs) (by omega) (by omega) ?_
      refine s_iload_n (i := 154) rfl 3 rfl ?_
      refine s_bud (0 + bc) (0 + bs) (by omega) (by omega) ?_
      refine s_iconst (i := 155) rfl (v := (5 : Int32)) (by decide) ?_
      refine s_bud (0 + bc) (0 + bs) (by omega) (by omega) ?_
      refine s_iadd (i := 156) rfl ?_
      refine s_bud (0 + bc) (0 + bs) (by omega) (by omega) ?_
      refine s_ialoadS hX (i := 157) rfl (fun v34 => ?_)
      refine s_bud (0 + bc) (0 + bs) (by omega) (by omega) ?_
      refine s_aloadK_n (i := 158) rfl 0 rfl ?_
      refine s_bud (0 + bc) (0 + bs) (by omega) (by omega) ?_
      refine s_iload_n (i := 159) rfl 3 rfl ?_
      refine s_bud (0 + bc) (0 + bs) (by omega) (by omega) ?_
      refine s_bipush (i := 160) rfl (v := (6 : Int32)) (by decide) ?_
      refine s_bud (0 + bc) (0 + bs) (by omega) (by omega) ?_
      refine s_iadd (i := 161) rfl ?_
      refine s_bud (0 + bc) (0 + bs) (by omega) (by omega) ?_
      refine s_ialoadS hX (i := 162) rfl (fun v35 => ?_)
      refine s_bud (0 + bc) (0 + bs) (by omega) (by omega) ?_
      refine u_callVi (kk := 9) [tI v30, tI v31, tI v32, tI v33, tI v34, tI v35] l2 [tI q29.1] rfl (i := 163) rfl (c_X9_feed q29.2 l2 v30 v31 v32 v33 v34 v35) xm_X9_feed (tw1182) rfl (Nat.le_of_ble_eq_true rfl) (xRm.of rfl) ⟨rfl, rfl⟩ (fun q36 => ?_)
      refine s_bud (0 + bc) (0 + bs) (by omega) (by omega) ?_
      refine s_icmpeq (i := 164) rfl (tgt := 1323) (by decide) (fun z364 => ?_) (fun z364 => ?_)
      · refine s_bud (0 + bc) (0 + bs) (by omega) (by omega) ?_
        exact s_sub [0, 1, 2, 3] rfl (b_L_law_1323 X xn xs9 hX k_18 bc bs hb hk_18 q36.2 l1 l2 l3)
      · refine s_bud 0 0 (by omega) (by omega) ?_
        refine s_iconst (i := 165) rfl (v := (0 : Int32)) (by decide) ?_
        refine s_bud 0 0 (by omega) (by omega) ?_
        exact s_zret (i := 166) rfl rfl
    refine s_if (P := v4 = (5 : Int32)) (fun z33_5 => ?_) (fun z33_5 => ?_)
    · refine s_table 369 (i := 21) rfl rfl (by rw [z33_5]; rfl) ?_
      refine s_bud (4 + bc) (603 + bs) (by omega) (by omega) ?_
      refine s_aload_n (i := 167) rfl 1 rfl ?_
      refine s_bud (4 + bc) (603 + bs) (by omega) (by omega) ?_
      refine s_bud (4 + (0 + bc)) (603 + (0 + bs)) (by omega) (by omega) ?_
      refine t_callVi (kk := 8) [] l1 [] rfl (i := 168) rfl (c_X8_text h l1) xm_X8_text (tw533) rfl (Nat.le_of_ble_eq_true rfl) (xRm.of rfl) (fun q37 => ?_)
      refine s_bud (0 + bc) (0 + bs) (by omega) (by omega) ?_
      refine s_aload_n (i := 169) rfl 2 rfl ?_
      refine s_bud (0 + bc) (0 + bs) (by omega) (by omega) ?_
      refine u_callVi (kk := 9) [] l2 [tI q37.1] rfl (i := 170) rfl (c_X9_text q37.2 l2) xm_X9_text (tw1189) rfl (Nat.le_of_ble_eq_true rfl) (xRm.of rfl) ⟨rfl, rfl⟩ (fun q38 => ?_)
      refine s_bud (0 + bc) (0 + bs) (by omega) (by omega) ?_
      refine s_icmpeq (i := 171) rfl (tgt := 1323) (by decide) (fun z377 => ?_) (fun z377 => ?_)
      · refine s_bud (0 + bc) (0 + bs) (by omega) (by omega) ?_
        exact s_sub [0, 1, 2, 3] rfl (b_L_law_1323 X xn xs9 hX k_18 bc bs hb hk_18 q38.2 l1 l2 l3)
      · refine s_bud 0 0 (by omega) (by omega) ?_
        refine s_iconst (i := 172) rfl (v := (0 : Int32)) (by decide) ?_
        refine s_bud 0 0 (by omega) (by omega) ?_
        exact s_zret (i := 173) rfl rfl
    refine s_if (P := v4 = (6 : Int32)) (fun z33_6 => ?_) (fun z33_6 => ?_)
    · refine s_table 382 (i := 21) rfl rfl (by rw [z33_6]; rfl) ?_
      refine s_bud (0 + bc) (0 + bs) (by omega) (by omega) ?_
      refine s_aload_n (i := 174) rfl 1 rfl ?_
      refine s_bud (0 + bc) (0 + bs) (by omega) (by omega) ?_
      refine s_aloadK_n (i := 175) rfl 0 rfl ?_
      refine s_bud (0 + bc) (0 + bs) (by omega) (by omega) ?_
      refine s_iload_n (i := 176) rfl 3 rfl ?_
      refine s_bud (0 + bc) (0 + bs) (by omega) (by omega) ?_
      refine s_iconst (i := 177) rfl (v := (1 : Int32)) (by decide) ?_
      refine s_bud (0 + bc) (0 + bs) (by omega) (by omega) ?_
      refine s_iadd (i := 178) rfl ?_
      refine s_bud (0 + bc) (0 + bs) (by omega) (by omega) ?_
      refine s_ialoadS hX (i := 179) rfl (fun v39 => ?_)
      refine s_bud (0 + bc) (0 + bs) (by omega) (by omega) ?_
      refine u_callVi (kk := 8) [tI v39] l1 [] rfl (i := 180) rfl (c_X8_force h l1 v39) xm_X8_force (tw537) rfl (Nat.le_of_ble_eq_true rfl) (xRm.of rfl) ⟨rfl, rfl⟩ (fun q40 => ?_)
      refine s_bud (0 + bc) (0 + bs) (by omega) (by omega) ?_
      refine s_aload_n (i := 181) rfl 2 rfl ?_
      refine s_bud (0 + bc) (0 + bs) (by omega) (by omega) ?_
      refine s_aloadK_n (i := 182) rfl 0 rfl ?_
      refine s_bud (0 + bc) (0 + bs) (by omega) (by omega) ?_
      refine s_iload_n (i := 183) rfl 3 rfl ?_
      refine s_bud (0 + bc) (0 + bs) (by omega) (by omega) ?_
      refine s_iconst (i := 184) rfl (v := (1 : Int32)) (by decide) ?_
      refine s_bud (0 + bc) (0 + bs) (by omega) (by omega) ?_
      refine s_iadd (i := 185) rfl ?_
      refine s_bud (0 + bc) (0 + bs) (by omega) (by omega) ?_
      refine s_ialoadS hX (i := 186) rfl (fun v41 => ?_)
      refine s_bud (0 + bc) (0 + bs) (by omega) (by omega) ?_
      refine u_callVi (kk := 9) [tI v41] l2 [tI q40.1] rfl (i := 187) rfl (c_X9_force q40.2 l2 v41) xm_X9_force (tw1190) rfl (Nat.le_of_ble_eq_true rfl) (xRm.of rfl) ⟨rfl, rfl⟩ (fun q42 => ?_)
      refine s_bud (0 + bc) (0 + bs) (by omega) (by omega) ?_
      refine s_icmpeq (i := 188) rfl (tgt := 1323) (by decide) (fun z400 => ?_) (fun z400 => ?_)
      · refine s_bud (0 + bc) (0 + bs) (by omega) (by omega) ?_
        exact s_sub [0, 1, 2, 3] rfl (b_L_law_1323 X xn xs9 hX k_18 bc bs hb hk_18 q42.2 l1 l2 l3)
      · refine s_bud 0 0 (by omega) (by omega) ?_
        refine s_iconst (i := 189) rfl (v := (0 : Int32)) (by decide) ?_
        refine s_bud 0 0 (by omega) (by omega) ?_
        exact s_zret (i := 190) rfl rfl
    refine s_if (P := v4 = (7 : Int32)) (fun z33_7 => ?_) (fun z33_7 => ?_)
    · refine s_table 405 (i := 21) rfl rfl (by rw [z33_7]; rfl) ?_
      refine s_bud (0 + bc) (0 + bs) (by omega) (by omega) ?_
      refine s_aload_n (i := 191) rfl 1 rfl ?_
      refine s_bud (0 + bc) (0 + bs) (by omega) (by omega) ?_
      refine s_aloadK_n (i := 192) rfl 0 rfl ?_
      refine s_bud (0 + bc) (0 + bs) (by omega) (by omega) ?_
      refine s_iload_n (i := 193) rfl 3 rfl ?_
      refine s_bud (0 + bc) (0 + bs) (by omega) (by omega) ?_
      refine s_iconst (i := 194) rfl (v := (1 : Int32)) (by decide) ?_
      refine s_bud (0 + bc) (0 + bs) (by omega) (by omega) ?_
      refine s_iadd (i := 195) rfl ?_
      refine s_bud (0 + bc) (0 + bs) (by omega) (by omega) ?_
      refine s_ialoadS hX (i := 196) rfl (fun v43 => ?_)
      refine s_bud (0 + bc) (0 + bs) (by omega) (by omega) ?_
      refine s_aloadK_n (i := 197) rfl 0 rfl ?_
      refine s_bud (0 + bc) (0 + bs) (by omega) (by omega) ?_
      refine s_iload_n (i := 198) rfl 3 rfl ?_
      refine s_bud (0 + bc) (0 + bs) (by omega) (by omega) ?_
      refine s_iconst (i := 199) rfl (v := (2 : Int32)) (by decide) ?_
      refine s_bud (0 + bc) (0 + bs) (by omega) (by omega) ?_
      refine s_iadd (i := 200) rfl ?_
      refine s_bud (0 + bc) (0 + bs) (by omega) (by omega) ?_
      refine s_ialoadS hX (i := 201) rfl (fun v44 => ?_)
      refine s_bud (0 + bc) (0 + bs) (by omega) (by omega) ?_
      refine s_aloadK_n (i := 202) rfl 0 rfl ?_
      refine s_bud (0 + bc) (0 + bs) (by omega) (by omega) ?_
      refine s_iload_n (i := 203) rfl 3 rfl ?_
      refine s_bud (0 + bc) (0 + bs) (by omega) (by omega) ?_
      refine s_iconst (i := 204) rfl (v := (3 : Int32)) (by decide) ?_
      refine s_bud (0 + bc) (0 + bs) (by omega) (by omega) ?_
      refine s_iadd (i := 205) rfl ?_
      refine s_bud (0 + bc) (0 + bs) (by omega) (by omega) ?_
      refine s_ialoadS hX (i := 206) rfl (fun v45 => ?_)
      refine s_bud (0 + bc) (0 + bs) (by omega) (by omega) ?_
      refine s_aloadK_n (i := 207) rfl 0 rfl ?_
      refine s_bud (0 + bc) (0 + bs) (by omega) (by omega) ?_
      refine s_iload_n (i := 208) rfl 3 rfl ?_
      refine s_bud (0 + bc) (0 + bs) (by omega) (by omega) ?_
      refine s_iconst (i := 209) rfl (v := (4 : Int32)) (by decide) ?_
      refine s_bud (0 + bc) (0 + bs) (by omega) (by omega) ?_
      refine s_iadd (i := 210) rfl ?_
      refine s_bud (0 + bc) (0 + bs) (by omega) (by omega) ?_
      refine s_ialoadS hX (i := 211) rfl (fun v46 => ?_)
      refine s_bud (0 + bc) (0 + bs) (by omega) (by omega) ?_
      refine s_aloadK_n (i := 212) rfl 0 rfl ?_
      refine s_bud (0 + bc) (0 + bs) (by omega) (by omega) ?_
      refine s_iload_n (i := 213) rfl 3 rfl ?_
      refine s_bud (0 + bc) (0 + bs) (by omega) (by omega) ?_
      refine s_iconst (i := 214) rfl (v := (5 : Int32)) (by decide) ?_
      refine s_bud (0 + bc) (0 + bs) (by omega) (by omega) ?_
      refine s_iadd (i := 215) rfl ?_
      refine s_bud (0 + bc) (0 + bs) (by omega) (by omega) ?_
      refine s_ialoadS hX (i := 216) rfl (fun v47 => ?_)
      refine s_bud (0 + bc) (0 + bs) (by omega) (by omega) ?_
      refine u_callVi (kk := 8) [tI v43, tI v44, tI v45, tI v46, tI v47] l1 [] rfl (i := 217) rfl (c_X8_asks h l1 v43 v44 v45 v46 v47) xm_X8_asks (tw541) rfl (Nat.le_of_ble_eq_true rfl) (xRm.of rfl) ⟨rfl, rfl⟩ (fun q48 => ?_)
      refine s_bud (0 + bc) (0 + bs) (by omega) (by omega) ?_
      refine s_aload_n (i := 218) rfl 2 rfl ?_
      refine s_bud (0 + bc) (0 + bs) (by omega) (by omega) ?_
      refine s_aloadK_n (i := 219) rfl 0 rfl ?_
      refine s_bud (0 + bc) (0 + bs) (by omega) (by omega) ?_
      refine s_iload_n (i := 220) rfl 3 rfl ?_
      refine s_bud (0 + bc) (0 + bs) (by omega) (by omega) ?_
      refine s_iconst (i := 221) rfl (v := (1 : Int32)) (by decide) ?_
      refine s_bud (0 + bc) (0 + bs) (by omega) (by omega) ?_
      refine s_iadd (i := 222) rfl ?_
      refine s_bud (0 + bc) (0 + bs) (by omega) (by omega) ?_
      refine s_ialoadS hX (i := 223) rfl (fun v49 => ?_)
      refine s_bud (0 + bc) (0 + bs) (by omega) (by omega) ?_
      refine s_aloadK_n (i := 224) rfl 0 rfl ?_
      refine s_bud (0 + bc) (0 + bs) (by omega) (by omega) ?_
      refine s_iload_n (i := 225) rfl 3 rfl ?_
      refine s_bud (0 + bc) (0 + bs) (by omega) (by omega) ?_
      refine s_iconst (i := 226) rfl (v := (2 : Int32)) (by decide) ?_
      refine s_bud (0 + bc) (0 + bs) (by omega) (by omega) ?_
      refine s_iadd (i := 227) rfl ?_
      refine s_bud (0 + bc) (0 + bs) (by omega) (by omega) ?_
      refine s_ialoadS hX (i := 228) rfl (fun v50 => ?_)
      refine s_bud (0 + bc) (0 + bs) (by omega) (by omega) ?_
      refine s_aloadK_n (i := 229) rfl 0 rfl ?_
      refine s_bud (0 + bc) (0 + bs) (by omega) (by omega) ?_
      refine s_iload_n (i := 230) rfl 3 rfl ?_
      refine s_bud (0 + bc) (0 + bs) (by omega) (by omega) ?_
      refine s_iconst (i := 231) rfl (v := (3 : Int32)) (by decide) ?_
      refine s_bud (0 + bc) (0 + bs) (by omega) (by omega) ?_
      refine s_iadd (i := 232) rfl ?_
      refine s_bud (0 + bc) (0 + bs) (by omega) (by omega) ?_
      refine s_ialoadS hX (i := 233) rfl (fun v51 => ?_)
      refine s_bud (0 + bc) (0 + bs) (by omega) (by omega) ?_
      refine s_aloadK_n (i := 234) rfl 0 rfl ?_
      refine s_bud (0 + bc) (0 + bs) (by omega) (by omega) ?_
      refine s_iload_n (i := 235) rfl 3 rfl ?_
      refine s_bud (0 + bc) (0 + bs) (by omega) (by omega) ?_
      refine s_iconst (i := 236) rfl (v := (4 : Int32)) (by decide) ?_
      refine s_bud (0 + bc) (0 + bs) (by omega) (by omega) ?_
      refine s_iadd (i := 237) rfl ?_
      refine s_bud (0 + bc) (0 + bs) (by omega) (by omega) ?_
      refine s_ialoadS hX (i := 238) rfl (fun v52 => ?_)
      refine s_bud (0 + bc) (0 + bs) (by omega) (by omega) ?_
      refine s_aloadK_n (i := 239) rfl 0 rfl ?_
      refine s_bud (0 + bc) (0 + bs) (by omega) (by omega) ?_
      refine s_iload_n (i := 240) rfl 3 rfl ?_
      refine s_bud (0 + bc) (0 + bs) (by omega) (by omega) ?_
      refine s_iconst (i := 241) rfl (v := (5 : Int32)) (by decide) ?_
      refine s_bud (0 + bc) (0 + bs) (by omega) (by omega) ?_
      refine s_iadd (i := 242) rfl ?_
      refine s_bud (0 + bc) (0 + bs) (by omega) (by omega) ?_
      refine s_ialoadS hX (i := 243) rfl (fun v53 => ?_)
      refine s_bud (0 + bc) (0 + bs) (by omega) (by omega) ?_
      refine u_callVi (kk := 9) [tI v49, tI v50, tI v51, tI v52, tI v53] l2 [tI q48.1] rfl (i := 244) rfl (c_X9_asks q48.2 l2 v49 v50 v51 v52 v53) xm_X9_asks (tw1194) rfl (Nat.le_of_ble_eq_true rfl) (xRm.of rfl) ⟨rfl, rfl⟩ (fun q54 => ?_)
      refine s_bud (0 + bc) (0 + bs) (by omega) (by omega) ?_
      refine s_icmpeq (i := 245) rfl (tgt := 1323) (by decide) (fun z463 => ?_) (fun z463 => ?_)
      · refine s_bud (0 + bc) (0 + bs) (by omega) (by omega) ?_
        exact s_sub [0, 1, 2, 3] rfl (b_L_law_1323 X xn xs9 hX k_18 bc bs hb hk_18 q54.2 l1 l2 l3)
      · refine s_bud 0 0 (by omega) (by omega) ?_
        refine s_iconst (i := 246) rfl (v := (0 : Int32)) (by decide) ?_
        refine s_bud 0 0 (by omega) (by omega) ?_
        exact s_zret (i := 247) rfl rfl
    refine s_if (P := v4 = (8 : Int32)) (fun z33_8 => ?_) (fun z33_8 => ?_)
    · refine s_table 468 (i := 21) rfl rfl (by rw [z33_8]; rfl) ?_
      refine s_bud (1 + bc) (3 + bs) (by omega) (by omega) ?_
      refine s_aload_n (i := 248) rfl 1 rfl ?_
      refine s_bud (1 + bc) (3 + bs) (by omega) (by omega) ?_
      refine s_aloadK_n (i := 249) rfl 0 rfl ?_
      refine s_bud (1 + bc) (3 + bs) (by omega) (by omega) ?_
      refine s_iload_n (i := 250) rfl 3 rfl ?_
      refine s_bud (1 + bc) (3 + bs) (by omega) (by omega) ?_
      refine s_iconst (i := 251) rfl (v := (1 : Int32)) (by decide) ?_
      refine s_bud (1 + bc) (3 + bs) (by omega) (by omega) ?_
      refine s_iadd (i := 252) rfl ?_
      refine s_bud (1 + bc) (3 + bs) (by omega) (by omega) ?_
      refine s_ialoadS hX (i := 253) rfl (fun v55 => ?_)
      refine s_bud (1 + bc) (3 + bs) (by omega) (by omega) ?_
      refine s_aloadK_n (i := 254) rfl 0 rfl ?_
      refine s_bud (1 + bc) (3 + bs) (by omega) (by omega) ?_
      refine s_iload_n (i := 255) rfl 3 rfl ?_
      refine s_bud (1 + bc) (3 + bs) (by omega) (by omega) ?_
      refine s_iconst (i := 256) rfl (v := (2 : Int32)) (by decide) ?_
      refine s_bud (1 + bc) (3 + bs) (by omega) (by omega) ?_
      refine s_iadd (i := 257) rfl ?_
      refine s_bud (1 + bc) (3 + bs) (by omega) (by omega) ?_
      refine s_ialoadS hX (i := 258) rfl (fun v56 => ?_)
      refine s_bud (1 + bc) (3 + bs) (by omega) (by omega) ?_
      refine s_aloadK_n (i := 259) rfl 0 rfl ?_
      refine s_bud (1 + bc) (3 + bs) (by omega) (by omega) ?_
      refine s_iload_n (i := 260) rfl 3 rfl ?_
      refine s_bud (1 + bc) (3 + bs) (by omega) (by omega) ?_
      refine s_iconst (i := 261) rfl (v := (3 : Int32)) (by decide) ?_
      refine s_bud (1 + bc) (3 + bs) (by omega) (by omega) ?_
      refine s_iadd (i := 262) rfl ?_
      refine s_bud (1 + bc) (3 + bs) (by omega) (by omega) ?_
      refine s_ialoadS hX (i := 263) rfl (fun v57 => ?_)
      refine s_bud (1 + bc) (3 + bs) (by omega) (by omega) ?_
      refine s_aloadK_n (i := 264) rfl 0 rfl ?_
      refine s_bud (1 + bc) (3 + bs) (by omega) (by omega) ?_
      refine s_iload_n (i := 265) rfl 3 rfl ?_
      refine s_bud (1 + bc) (3 + bs) (by omega) (by omega) ?_
      refine s_iconst (i := 266) rfl (v := (4 : Int32)) (by decide) ?_
      refine s_bud (1 + bc) (3 + bs) (by omega) (by omega) ?_
      refine s_iadd (i := 267) rfl ?_
      refine s_bud (1 + bc) (3 + bs) (by omega) (by omega) ?_
      refine s_ialoadS hX (i := 268) rfl (fun v58 => ?_)
      refine s_bud (1 + bc) (3 + bs) (by omega) (by omega) ?_
      refine s_bud (1 + (0 + bc)) (3 + (0 + bs)) (by omega) (by omega) ?_
      refine t_callVi (kk := 8) [tI v55, tI v56, tI v57, tI v58] l1 [] rfl (i := 269) rfl (c_X8_coin h l1 v55 v56 v57 v58) xm_X8_coin (tw569) rfl (Nat.le_of_ble_eq_true rfl) (xRm.of rfl) (fun q59 => ?_)
      refine s_bud (0 + bc) (0 + bs) (by omega) (by omega) ?_
      refine s_aload_n (i := 270) rfl 2 rfl ?_
      refine s_bud (0 + bc) (0 + bs) (by omega) (by omega) ?_
      refine s_aloadK_n (i := 271) rfl 0 rfl ?_
      refine s_bud (0 + bc) (0 + bs) (by omega) (by omega) ?_
      refine s_iload_n (i := 272) rfl 3 rfl ?_
      refine s_bud (0 + bc) (0 + bs) (by omega) (by omega) ?_
      refine s_iconst (i := 273) rfl (v := (1 : Int32)) (by decide) ?_
      refine s_bud (0 + bc) (0 + bs) (by omega) (by omega) ?_
      refine s_iadd (i := 274) rfl ?_
      refine s_bud (0 + bc) (0 + bs) (by omega) (by omega) ?_
      refine s_ialoadS hX (i := 275) rfl (fun v60 => ?_)
      refine s_bud (0 + bc) (0 + bs) (by omega) (by omega) ?_
      refine s_aloadK_n (i := 276) rfl 0 rfl ?_
      refine s_bud (0 + bc) (0 + bs) (by omega) (by omega) ?_
      refine s_iload_n (i := 277) rfl 3 rfl ?_
      refine s_bud (0 + bc) (0 + bs) (by omega) (by omega) ?_
      refine s_iconst (i := 278) rfl (v := (2 : Int32)) (by decide) ?_
      refine s_bud (0 + bc) (0 + bs) (by omega) (by omega) ?_
      refine s_iadd (i := 279) rfl ?_
      refine s_bud (0 + bc) (0 + bs) (by omega) (by omega) ?_
      refine s_ialoadS hX (i := 280) rfl (fun v61 => ?_)
      refine s_bud (0 + bc) (0 + bs) (by omega) (by omega) ?_
      refine s_aloadK_n (i := 281) rfl 0 rfl ?_
      refine s_bud (0 + bc) (0 + bs) (by omega) (by omega) ?_
      refine s_iload_n (i := 282) rfl 3 rfl ?_
      refine s_bud (0 + bc) (0 + bs) (by omega) (by omega) ?_
      refine s_iconst (i := 283) rfl (v := (3 : Int32)) (by decide) ?_
      refine s_bud (0 + bc) (0 + bs) (by omega) (by omega) ?_
      refine s_iadd (i := 284) rfl ?_
      refine s_bud (0 + bc) (0 + bs) (by omega) (by omega) ?_
      refine s_ialoadS hX (i := 285) rfl (fun v62 => ?_)
      refine s_bud (0 + bc) (0 + bs) (by omega) (by omega) ?_
      refine s_aloadK_n (i := 286) rfl 0 rfl ?_
      refine s_bud (0 + bc) (0 + bs) (by omega) (by omega) ?_
      refine s_iload_n (i := 287) rfl 3 rfl ?_
      refine s_bud (0 + bc) (0 + bs) (by omega) (by omega) ?_
      refine s_iconst (i := 288) rfl (v := (4 : Int32)) (by decide) ?_
      refine s_bud (0 + bc) (0 + bs) (by omega) (by omega) ?_
      refine s_iadd (i := 289) rfl ?_
      refine s_bud (0 + bc) (0 + bs) (by omega) (by omega) ?_
      refine s_ialoadS hX (i := 290) rfl (fun v63 => ?_)
      refine s_bud (0 + bc) (0 + bs) (by omega) (by omega) ?_
      refine u_callVi (kk := 9) [tI v60, tI v61, tI v62, tI v63] l2 [tI q59.1] rfl (i := 291) rfl (c_X9_coin q59.2 l2 v60 v61 v62 v63) xm_X9_coin (tw1223) rfl (Nat.le_of_ble_eq_true rfl) (xRm.of rfl) ⟨rfl, rfl⟩ (fun q64 => ?_)
      refine s_bud (0 + bc) (0 + bs) (by omega) (by omega) ?_
      refine s_icmpeq (i := 292) rfl (tgt := 1323) (by decide) (fun z516 => ?_) (fun z516 => ?_)
      · refine s_bud (0 + bc) (0 + bs) (by omega) (by omega) ?_
        exact s_sub [0, 1, 2, 3] rfl (b_L_law_1323 X xn xs9 hX k_18 bc bs hb hk_18 q64.2 l1 l2 l3)
      · refine s_bud 0 0 (by omega) (by omega) ?_
        refine s_iconst (i := 293) rfl (v := (0 : Int32)) (by decide) ?_
        refine s_bud 0 0 (by omega) (by omega) ?_
        exact s_zret (i := 294) rfl rfl
    refine s_if (P := v4 = (9 : Int32)) (fun z33_9 => ?_) (fun z33_9 => ?_)
    · refine s_table 521 (i := 21) rfl rfl (by rw [z33_9]; rfl) ?_
      refine s_bud (0 + bc) (0 + bs) (by omega) (by omega) ?_
      refine s_aload_n (i := 295) rfl 1 rfl ?_
      refine s_bud (0 + bc) (0 + bs) (by omega) (by omega) ?_
      refine s_aloadK_n (i := 296) rfl 0 rfl ?_
      refine s_bud (0 + bc) (0 + bs) (by omega) (by omega) ?_
      refine s_iload_n (i := 297) rfl 3 rfl ?_
      refine s_bud (0 + bc) (0 + bs) (by omega) (by omega) ?_
      refine s_iconst (i := 298) rfl (v := (1 : Int32)) (by decide) ?_
      refine s_bud (0 + bc) (0 + bs) (by omega) (by omega) ?_
      refine s_iadd (i := 299) rfl ?_
      refine s_bud (0 + bc) (0 + bs) (by omega) (by omega) ?_
      refine s_ialoadS hX (i := 300) rfl (fun v65 => ?_)
      refine s_bud (0 + bc) (0 + bs) (by omega) (by omega) ?_
      refine s_aloadK_n (i := 301) rfl 0 rfl ?_
      refine s_bud (0 + bc) (0 + bs) (by omega) (by omega) ?_
      refine s_iload_n (i := 302) rfl 3 rfl ?_
      refine s_bud (0 + bc) (0 + bs) (by omega) (by omega) ?_
      refine s_iconst (i := 303) rfl (v := (2 : Int32)) (by decide) ?_
      refine s_bud (0 + bc) (0 + bs) (by omega) (by omega) ?_
      refine s_iadd (i := 304) rfl ?_
      refine s_bud (0 + bc) (0 + bs) (by omega) (by omega) ?_
      refine s_ialoadS hX (i := 305) rfl (fun v66 => ?_)
      refine s_bud (0 + bc) (0 + bs) (by omega) (by omega) ?_
      refine u_callVi (kk := 8) [tI v65, tI v66] l1 [] rfl (i := 306) rfl (c_X8_sell h l1 v65 v66) xm_X8_sell (tw595) rfl (Nat.le_of_ble_eq_true rfl) (xRm.of rfl) ⟨rfl, rfl⟩ (fun q67 => ?_)
      refine s_bud (0 + bc) (0 + bs) (by omega) (by omega) ?_
      refine s_aload_n (i := 307) rfl 2 rfl ?_
      refine s_bud (0 + bc) (0 + bs) (by omega) (by omega) ?_
      refine s_aloadK_n (i := 308) rfl 0 rfl ?_
      refine s_bud (0 + bc) (0 + bs) (by omega) (by omega) ?_
      refine s_iload_n (i := 309) rfl 3 rfl ?_
      refine s_bud (0 + bc) (0 + bs) (by omega) (by omega) ?_
      refine s_iconst (i := 310) rfl (v := (1 : Int32)) (by decide) ?_
      refine s_bud (0 + bc) (0 + bs) (by omega) (by omega) ?_
      refine s_iadd (i := 311) rfl ?_
      refine s_bud (0 + bc) (0 + bs) (by omega) (by omega) ?_
      refine s_ialoadS hX (i := 312) rfl (fun v68 => ?_)
      refine s_bud (0 + bc) (0 + bs) (by omega) (by omega) ?_
      refine s_aloadK_n (i := 313) rfl 0 rfl ?_
      refine s_bud (0 + bc) (0 + bs) (by omega) (by omega) ?_
      refine s_iload_n (i := 314) rfl 3 rfl ?_
      refine s_bud (0 + bc) (0 + bs) (by omega) (by omega) ?_
      refine s_iconst (i := 315) rfl (v := (2 : Int32)) (by decide) ?_
      refine s_bud (0 + bc) (0 + bs) (by omega) (by omega) ?_
      refine s_iadd (i := 316) rfl ?_
      refine s_bud (0 + bc) (0 + bs) (by omega) (by omega) ?_
      refine s_ialoadS hX (i := 317) rfl (fun v69 => ?_)
      refine s_bud (0 + bc) (0 + bs) (by omega) (by omega) ?_
      refine u_callVi (kk := 9) [tI v68, tI v69] l2 [tI q67.1] rfl (i := 318) rfl (c_X9_sell q67.2 l2 v68 v69) xm_X9_sell (tw1227) rfl (Nat.le_of_ble_eq_true rfl) (xRm.of rfl) ⟨rfl, rfl⟩ (fun q70 => ?_)
      refine s_bud (0 + bc) (0 + bs) (by omega) (by omega) ?_
      refine s_icmpeq (i := 319) rfl (tgt := 1323) (by decide) (fun z549 => ?_) (fun z549 => ?_)
      · refine s_bud (0 + bc) (0 + bs) (by omega) (by omega) ?_
        exact s_sub [0, 1, 2, 3] rfl (b_L_law_1323 X xn xs9 hX k_18 bc bs hb hk_18 q70.2 l1 l2 l3)
      · refine s_bud 0 0 (by omega) (by omega) ?_
        refine s_iconst (i := 320) rfl (v := (0 : Int32)) (by decide) ?_
        refine s_bud 0 0 (by omega) (by omega) ?_
        exact s_zret (i := 321) rfl rfl
    refine s_if (P := v4 = (10 : Int32)) (fun z33_10 => ?_) (fun z33_10 => ?_)
    · refine s_table 554 (i := 21) rfl rfl (by rw [z33_10]; rfl) ?_
      refine s_bud (0 + bc) (0 + bs) (by omega) (by omega) ?_
      refine s_aload_n (i := 322) rfl 1 rfl ?_
      refine s_bud (0 + bc) (0 + bs) (by omega) (by omega) ?_
      refine s_aloadK_n (i := 323) rfl 0 rfl ?_
      refine s_bud (0 + bc) (0 + bs) (by omega) (by omega) ?_
      refine s_iload_n (i := 324) rfl 3 rfl ?_
      refine s_bud (0 + bc) (0 + bs) (by omega) (by omega) ?_
      refine s_iconst (i := 325) rfl (v := (1 : Int32)) (by decide) ?_
      refine s_bud (0 + bc) (0 + bs) (by omega) (by omega) ?_
      refine s_iadd (i := 326) rfl ?_
      refine s_bud (0 + bc) (0 + bs) (by omega) (by omega) ?_
      refine s_ialoadS hX (i := 327) rfl (fun v71 => ?_)
      refine s_bud (0 + bc) (0 + bs) (by omega) (by omega) ?_
      refine s_aloadK_n (i := 328) rfl 0 rfl ?_
      refine s_bud (0 + bc) (0 + bs) (by omega) (by omega) ?_
      refine s_iload_n (i := 329) rfl 3 rfl ?_
      refine s_bud (0 + bc) (0 + bs) (by omega) (by omega) ?_
      refine s_iconst (i := 330) rfl (v := (2 : Int32)) (by decide) ?_
      refine s_bud (0 + bc) (0 + bs) (by omega) (by omega) ?_
      refine s_iadd (i := 331) rfl ?_
      refine s_bud (0 + bc) (0 + bs) (by omega) (by omega) ?_
      refine s_ialoadS hX (i := 332) rfl (fun v72 => ?_)
      refine s_bud (0 + bc) (0 + bs) (by omega) (by omega) ?_
      refine u_callVi (kk := 8) [tI v71, tI v72] l1 [] rfl (i := 333) rfl (c_X8_told h l1 v71 v72) xm_X8_told (tw611) rfl (Nat.le_of_ble_eq_true rfl) (xRm.of rfl) ⟨rfl, rfl⟩ (fun q73 => ?_)
      refine s_bud (0 + bc) (0 + bs) (by omega) (by omega) ?_
      refine s_aload_n (i := 334) rfl 2 rfl ?_
      refine s_bud (0 + bc) (0 + bs) (by omega) (by omega) ?_
      refine s_aloadK_n (i := 335) rfl 0 rfl ?_
      refine s_bud (0 + bc) (0 + bs) (by omega) (by omega) ?_
      refine s_iload_n (i := 336) rfl 3 rfl ?_
      refine s_bud (0 + bc) (0 + bs) (by omega) (by omega) ?_
      refine s_iconst (i := 337) rfl (v := (1 : Int32)) (by decide) ?_
      refine s_bud (0 + bc) (0 + bs) (by omega) (by omega) ?_
      refine s_iadd (i := 338) rfl ?_
      refine s_bud (0 + bc) (0 + bs) (by omega) (by omega) ?_
      refine s_ialoadS hX (i := 339) rfl (fun v74 => ?_)
      refine s_bud (0 + bc) (0 + bs) (by omega) (by omega) ?_
      refine s_aloadK_n (i := 340) rfl 0 rfl ?_
      refine s_bud (0 + bc) (0 + bs) (by omega) (by omega) ?_
      refine s_iload_n (i := 341) rfl 3 rfl ?_
      refine s_bud (0 + bc) (0 + bs) (by omega) (by omega) ?_
      refine s_iconst (i := 342) rfl (v := (2 : Int32)) (by decide) ?_
      refine s_bud (0 + bc) (0 + bs) (by omega) (by omega) ?_
      refine s_iadd (i := 343) rfl ?_
      refine s_bud (0 + bc) (0 + bs) (by omega) (by omega) ?_
      refine s_ialoadS hX (i := 344) rfl (fun v75 => ?_)
      refine s_bud (0 + bc) (0 + bs) (by omega) (by omega) ?_
      refine u_callVi (kk := 9) [tI v74, tI v75] l2 [tI q73.1] rfl (i := 345) rfl (c_X9_told q73.2 l2 v74 v75) xm_X9_told (tw1239) rfl (Nat.le_of_ble_eq_true rfl) (xRm.of rfl) ⟨rfl, rfl⟩ (fun q76 => ?_)
      refine s_bud (0 + bc) (0 + bs) (by omega) (by omega) ?_
      refine s_icmpeq (i := 346) rfl (tgt := 1323) (by decide) (fun z582 => ?_) (fun z582 => ?_)
      · refine s_bud (0 + bc) (0 + bs) (by omega) (by omega) ?_
        exact s_sub [0, 1, 2, 3] rfl (b_L_law_1323 X xn xs9 hX k_18 bc bs hb hk_18 q76.2 l1 l2 l3)
      · refine s_bud 0 0 (by omega) (by omega) ?_
        refine s_iconst (i := 347) rfl (v := (0 : Int32)) (by decide) ?_
        refine s_bud 0 0 (by omega) (by omega) ?_
        exact s_zret (i := 348) rfl rfl
    refine s_if (P := v4 = (11 : Int32)) (fun z33_11 => ?_) (fun z33_11 => ?_)
    · refine s_table 587 (i := 21) rfl rfl (by rw [z33_11]; rfl) ?_
      refine s_bud (0 + bc) (0 + bs) (by omega) (by omega) ?_
      refine s_aload_n (i := 349) rfl 1 rfl ?_
      refine s_bud (0 + bc) (0 + bs) (by omega) (by omega) ?_
      refine s_aloadK_n (i := 350) rfl 0 rfl ?_
      refine s_bud (0 + bc) (0 + bs) (by omega) (by omega) ?_
      refine s_iload_n (i := 351) rfl 3 rfl ?_
      refine s_bud (0 + bc) (0 + bs) (by omega) (by omega) ?_
      refine s_iconst (i := 352) rfl (v := (1 : Int32)) (by decide) ?_
      refine s_bud (0 + bc) (0 + bs) (by omega) (by omega) ?_
      refine s_iadd (i := 353) rfl ?_
      refine s_bud (0 + bc) (0 + bs) (by omega) (by omega) ?_
      refine s_ialoadS hX (i := 354) rfl (fun v77 => ?_)
      refine s_bud (0 + bc) (0 + bs) (by omega) (by omega) ?_
      refine u_callVi (kk := 8) [tI v77] l1 [] rfl (i := 355) rfl (c_X8_put h l1 v77) xm_X8_put (tw628) rfl (Nat.le_of_ble_eq_true rfl) (xRm.of rfl) ⟨rfl, rfl⟩ (fun q78 => ?_)
      refine s_bud (0 + bc) (0 + bs) (by omega) (by omega) ?_
      refine s_aload_n (i := 356) rfl 2 rfl ?_
      refine s_bud (0 + bc) (0 + bs) (by omega) (by omega) ?_
      refine s_aloadK_n (i := 357) rfl 0 rfl ?_
      refine s_bud (0 + bc) (0 + bs) (by omega) (by omega) ?_
      refine s_iload_n (i := 358) rfl 3 rfl ?_
      refine s_bud (0 + bc) (0 + bs) (by omega) (by omega) ?_
      refine s_iconst (i := 359) rfl (v := (1 : Int32)) (by decide) ?_
      refine s_bud (0 + bc) (0 + bs) (by omega) (by omega) ?_
      refine s_iadd (i := 360) rfl ?_
      refine s_bud (0 + bc) (0 + bs) (by omega) (by omega) ?_
      refine s_ialoadS hX (i := 361) rfl (fun v79 => ?_)
      refine s_bud (0 + bc) (0 + bs) (by omega) (by omega) ?_
      refine u_callVi (kk := 9) [tI v79] l2 [tI q78.1] rfl (i := 362) rfl (c_X9_put q78.2 l2 v79) xm_X9_put (tw1251) rfl (Nat.le_of_ble_eq_true rfl) (xRm.of rfl) ⟨rfl, rfl⟩ (fun q80 => ?_)
      refine s_bud (0 + bc) (0 + bs) (by omega) (by omega) ?_
      refine s_icmpeq (i := 363) rfl (tgt := 1323) (by decide) (fun z605 => ?_) (fun z605 => ?_)
      · refine s_bud (0 + bc) (0 + bs) (by omega) (by omega) ?_
        exact s_sub [0, 1, 2, 3] rfl (b_L_law_1323 X xn xs9 hX k_18 bc bs hb hk_18 q80.2 l1 l2 l3)
      · refine s_bud 0 0 (by omega) (by omega) ?_
        refine s_iconst (i := 364) rfl (v := (0 : Int32)) (by decide) ?_
        refine s_bud 0 0 (by omega) (by omega) ?_
        exact s_zret (i := 365) rfl rfl
    refine s_if (P := v4 = (12 : Int32)) (fun z33_12 => ?_) (fun z33_12 => ?_)
    · refine s_table 610 (i := 21) rfl rfl (by rw [z33_12]; rfl) ?_
      refine s_bud (0 + bc) (0 + bs) (by omega) (by omega) ?_
      refine s_aload_n (i := 366) rfl 1 rfl ?_
      refine s_bud (0 + bc) (0 + bs) (by omega) (by omega) ?_
      refine s_aloadK_n (i := 367) rfl 0 rfl ?_
      refine s_bud (0 + bc) (0 + bs) (by omega) (by omega) ?_
      refine s_iload_n (i := 368) rfl 3 rfl ?_
      refine s_bud (0 + bc) (0 + bs) (by omega) (by omega) ?_
      refine s_iconst (i := 369) rfl (v := (1 : Int32)) (by decide) ?_
      refine s_bud (0 + bc) (0 + bs) (by omega) (by omega) ?_
      refine s_iadd (i := 370) rfl ?_
      refine s_bud (0 + bc) (0 + bs) (by omega) (by omega) ?_
      refine s_ialoadS hX (i := 371) rfl (fun v81 => ?_)
      refine s_bud (0 + bc) (0 + bs) (by omega) (by omega) ?_
      refine u_callVi (kk := 8) [tI v81] l1 [] rfl (i := 372) rfl (c_X8_worth h l1 v81) xm_X8_worth (tw660) rfl (Nat.le_of_ble_eq_true rfl) (xRm.of rfl) ⟨rfl, rfl⟩ (fun q82 => ?_)
      refine s_bud (0 + bc) (0 + bs) (by omega) (by omega) ?_
      refine s_aload_n (i := 373) rfl 2 rfl ?_
      refine s_bud (0 + bc) (0 + bs) (by omega) (by omega) ?_
      refine s_aloadK_n (i := 374) rfl 0 rfl ?_
      refine s_bud (0 + bc) (0 + bs) (by omega) (by omega) ?_
      refine s_iload_n (i := 375) rfl 3 rfl ?_
      refine s_bud (0 + bc) (0 + bs) (by omega) (by omega) ?_
      refine s_iconst (i := 376) rfl (v := (1 : Int32)) (by decide) ?_
      refine s_bud (0 + bc) (0 + bs) (by omega) (by omega) ?_
      refine s_iadd (i := 377) rfl ?_
      refine s_bud (0 + bc) (0 + bs) (by omega) (by omega) ?_
      refine s_ialoadS hX (i := 378) rfl (fun v83 => ?_)
      refine s_bud (0 + bc) (0 + bs) (by omega) (by omega) ?_
      refine u_callVi (kk := 9) [tI v83] l2 [tI q82.1] rfl (i := 379) rfl (c_X9_worth q82.2 l2 v83) xm_X9_worth (tw1271) rfl (Nat.le_of_ble_eq_true rfl) (xRm.of rfl) ⟨rfl, rfl⟩ (fun q84 => ?_)
      refine s_bud (0 + bc) (0 + bs) (by omega) (by omega) ?_
      refine s_icmpeq (i := 380) rfl (tgt := 1323) (by decide) (fun z628 => ?_) (fun z628 => ?_)
      · refine s_bud (0 + bc) (0 + bs) (by omega) (by omega) ?_
        exact s_sub [0, 1, 2, 3] rfl (b_L_law_1323 X xn xs9 hX k_18 bc bs hb hk_18 q84.2 l1 l2 l3)
      · refine s_bud 0 0 (by omega) (by omega) ?_
        refine s_iconst (i := 381) rfl (v := (0 : Int32)) (by decide) ?_
        refine s_bud 0 0 (by omega) (by omega) ?_
        exact s_zret (i := 382) rfl rfl
    refine s_if (P := v4 = (13 : Int32)) (fun z33_13 => ?_) (fun z33_13 => ?_)
    · refine s_table 633 (i := 21) rfl rfl (by rw [z33_13]; rfl) ?_
      refine s_bud (0 + bc) (0 + bs) (by omega) (by omega) ?_
      refine s_aload_n (i := 383) rfl 1 rfl ?_
      refine s_bud (0 + bc) (0 + bs) (by omega) (by omega) ?_
      refine s_aloadK_n (i := 384) rfl 0 rfl ?_
      refine s_bud (0 + bc) (0 + bs) (by omega) (by omega) ?_
      refine s_iload_n (i := 385) rfl 3 rfl ?_
      refine s_bud (0 + bc) (0 + bs) (by omega) (by omega) ?_
      refine s_iconst (i := 386) rfl (v := (1 : Int32)) (by decide) ?_
      refine s_bud (0 + bc) (0 + bs) (by omega) (by omega) ?_
      refine s_iadd (i := 387) rfl ?_
      refine s_bud (0 + bc) (0 + bs) (by omega) (by omega) ?_
      refine s_ialoadS hX (i := 388) rfl (fun v85 => ?_)
      refine s_bud (0 + bc) (0 + bs) (by omega) (by omega) ?_
      refine s_aloadK_n (i := 389) rfl 0 rfl ?_
      refine s_bud (0 + bc) (0 + bs) (by omega) (by omega) ?_
      refine s_iload_n (i := 390) rfl 3 rfl ?_
      refine s_bud (0 + bc) (0 + bs) (by omega) (by omega) ?_
      refine s_iconst (i := 391) rfl (v := (2 : Int32)) (by decide) ?_
      refine s_bud (0 + bc) (0 + bs) (by omega) (by omega) ?_
      refine s_iadd (i := 392) rfl ?_
      refine s_bud (0 + bc) (0 + bs) (by omega) (by omega) ?_
      refine s_ialoadS hX (i := 393) rfl (fun v86 => ?_)
      refine s_bud (0 + bc) (0 + bs) (by omega) (by omega) ?_
      refine u_callVi (kk := 8) [tI v85, tI v86] l1 [] rfl (i := 394) rfl (c_X8_gang h l1 v85 v86) xm_X8_gang (tw669) rfl (Nat.le_of_ble_eq_true rfl) (xRm.of rfl) ⟨rfl, rfl⟩ (fun q87 => ?_)
      refine s_bud (0 + bc) (0 + bs) (by omega) (by omega) ?_
      refine s_aload_n (i := 395) rfl 2 rfl ?_
      refine s_bud (0 + bc) (0 + bs) (by omega) (by omega) ?_
      refine s_aloadK_n (i := 396) rfl 0 rfl ?_
      refine s_bud (0 + bc) (0 + bs) (by omega) (by omega) ?_
      refine s_iload_n (i := 397) rfl 3 rfl ?_
      refine s_bud (0 + bc) (0 + bs) (by omega) (by omega) ?_
      refine s_iconst (i := 398) rfl (v := (1 : Int32)) (by decide) ?_
      refine s_bud (0 + bc) (0 + bs) (by omega) (by omega) ?_
      refine s_iadd (i := 399) rfl ?_
      refine s_bud (0 + bc) (0 + bs) (by omega) (by omega) ?_
      refine s_ialoadS hX (i := 400) rfl (fun v88 => ?_)
      refine s_bud (0 + bc) (0 + bs) (by omega) (by omega) ?_
      refine s_aloadK_n (i := 401) rfl 0 rfl ?_
      refine s_bud (0 + bc) (0 + bs) (by omega) (by omega) ?_
      refine s_iload_n (i := 402) rfl 3 rfl ?_
      refine s_bud (0 + bc) (0 + bs) (by omega) (by omega) ?_
      refine s_iconst (i := 403) rfl (v := (2 : Int32)) (by decide) ?_
      refine s_bud (0 + bc) (0 + bs) (by omega) (by omega) ?_
      refine s_iadd (i := 404) rfl ?_
      refine s_bud (0 + bc) (0 + bs) (by omega) (by omega) ?_
      refine s_ialoadS hX (i := 405) rfl (fun v89 => ?_)
      refine s_bud (0 + bc) (0 + bs) (by omega) (by omega) ?_
      refine u_callVi (kk := 9) [tI v88, tI v89] l2 [tI q87.1] rfl (i := 406) rfl (c_X9_gang q87.2 l2 v88 v89) xm_X9_gang (tw1280) rfl (Nat.le_of_ble_eq_true rfl) (xRm.of rfl) ⟨rfl, rfl⟩ (fun q90 => ?_)
      refine s_bud (0 + bc) (0 + bs) (by omega) (by omega) ?_
      refine s_icmpeq (i := 407) rfl (tgt := 1323) (by decide) (fun z661 => ?_) (fun z661 => ?_)
      · refine s_bud (0 + bc) (0 + bs) (by omega) (by omega) ?_
        exact s_sub [0, 1, 2, 3] rfl (b_L_law_1323 X xn xs9 hX k_18 bc bs hb hk_18 q90.2 l1 l2 l3)
      · refine s_bud 0 0 (by omega) (by omega) ?_
        refine s_iconst (i := 408) rfl (v := (0 : Int32)) (by decide) ?_
        refine s_bud 0 0 (by omega) (by omega) ?_
        exact s_zret (i := 409) rfl rfl
    refine s_if (P := v4 = (14 : Int32)) (fun z33_14 => ?_) (fun z33_14 => ?_)
    · refine s_table 666 (i := 21) rfl rfl (by rw [z33_14]; rfl) ?_
      refine s_bud (0 + bc) (0 + bs) (by omega) (by omega) ?_
      refine s_aload_n (i := 410) rfl 1 rfl ?_
      refine s_bud (0 + bc) (0 + bs) (by omega) (by omega) ?_
      refine s_aloadK_n (i := 411) rfl 0 rfl ?_
      refine s_bud (0 + bc) (0 + bs) (by omega) (by omega) ?_
      refine s_iload_n (i := 412) rfl 3 rfl ?_
      refine s_bud (0 + bc) (0 + bs) (by omega) (by omega) ?_
      refine s_iconst (i := 413) rfl (v := (1 : Int32)) (by decide) ?_
      refine s_bud (0 + bc) (0 + bs) (by omega) (by omega) ?_
      refine s_iadd (i := 414) rfl ?_
      refine s_bud (0 + bc) (0 + bs) (by omega) (by omega) ?_
      refine s_ialoadS hX (i := 415) rfl (fun v91 => ?_)
      refine s_bud (0 + bc) (0 + bs) (by omega) (by omega) ?_
      refine s_aloadK_n (i := 416) rfl 0 rfl ?_
      refine s_bud (0 + bc) (0 + bs) (by omega) (by omega) ?_
      refine s_iload_n (i := 417) rfl 3 rfl ?_
      refine s_bud (0 + bc) (0 + bs) (by omega) (by omega) ?_
      refine s_iconst (i := 418) rfl (v := (2 : Int32)) (by decide) ?_
      refine s_bud (0 + bc) (0 + bs) (by omega) (by omega) ?_
      refine s_iadd (i := 419) rfl ?_
      refine s_bud (0 + bc) (0 + bs) (by omega) (by omega) ?_
      refine s_ialoadS hX (i := 420) rfl (fun v92 => ?_)
      refine s_bud (0 + bc) (0 + bs) (by omega) (by omega) ?_
      refine u_callVi (kk := 8) [tI v91, tI v92] l1 [] rfl (i := 421) rfl (c_X8_spare h l1 v91 v92) xm_X8_spare (tw724) rfl (Nat.le_of_ble_eq_true rfl) (xRm.of rfl) ⟨rfl, rfl⟩ (fun q93 => ?_)
      refine s_bud (0 + bc) (0 + bs) (by omega) (by omega) ?_
      refine s_aload_n (i := 422) rfl 2 rfl ?_
      refine s_bud (0 + bc) (0 + bs) (by omega) (by omega) ?_
      refine s_aloadK_n (i := 423) rfl 0 rfl ?_
      refine s_bud (0 + bc) (0 + bs) (by omega) (by omega) ?_
      refine s_iload_n (i := 424) rfl 3 rfl ?_
      refine s_bud (0 + bc) (0 + bs) (by omega) (by omega) ?_
      refine s_iconst (i := 425) rfl (v := (1 : Int32)) (by decide) ?_
      refine s_bud (0 + bc) (0 + bs) (by omega) (by omega) ?_
      refine s_iadd (i := 426) rfl ?_
      refine s_bud (0 + bc) (0 + bs) (by omega) (by omega) ?_
      refine s_ialoadS hX (i := 427) rfl (fun v94 => ?_)
      refine s_bud (0 + bc) (0 + bs) (by omega) (by omega) ?_
      refine s_aloadK_n (i := 428) rfl 0 rfl ?_
      refine s_bud (0 + bc) (0 + bs) (by omega) (by omega) ?_
      refine s_iload_n (i := 429) rfl 3 rfl ?_
      refine s_bud (0 + bc) (0 + bs) (by omega) (by omega) ?_
      refine s_iconst (i := 430) rfl (v := (2 : Int32)) (by decide) ?_
      refine s_bud (0 + bc) (0 + bs) (by omega) (by omega) ?_
      refine s_iadd (i := 431) rfl ?_
      refine s_bud (0 + bc) (0 + bs) (by omega) (by omega) ?_
      refine s_ialoadS hX (i := 432) rfl (fun v95 => ?_)
      refine s_bud (0 + bc) (0 + bs) (by omega) (by omega) ?_
      refine u_callVi (kk := 9) [tI v94, tI v95] l2 [tI q93.1] rfl (i := 433) rfl (c_X9_spare q93.2 l2 v94 v95) xm_X9_spare (tw1300) rfl (Nat.le_of_ble_eq_true rfl) (xRm.of rfl) ⟨rfl, rfl⟩ (fun q96 => ?_)
      refine s_bud (0 + bc) (0 + bs) (by omega) (by omega) ?_
      refine s_icmpeq (i := 434) rfl (tgt := 1323) (by decide) (fun z694 => ?_) (fun z694 => ?_)
      · refine s_bud (0 + bc) (0 + bs) (by omega) (by omega) ?_
        exact s_sub [0, 1, 2, 3] rfl (b_L_law_1323 X xn xs9 hX k_18 bc bs hb hk_18 q96.2 l1 l2 l3)
      · refine s_bud 0 0 (by omega) (by omega) ?_
        refine s_iconst (i := 435) rfl (v := (0 : Int32)) (by decide) ?_
        refine s_bud 0 0 (by omega) (by omega) ?_
        exact s_zret (i := 436) rfl rfl
    refine s_if (P := v4 = (15 : Int32)) (fun z33_15 => ?_) (fun z33_15 => ?_)
    · refine s_table 699 (i := 21) rfl rfl (by rw [z33_15]; rfl) ?_
      refine s_bud (0 + bc) (0 + bs) (by omega) (by omega) ?_
      refine s_aload_n (i := 437) rfl 1 rfl ?_
      refine s_bud (0 + bc) (0 + bs) (by omega) (by omega) ?_
      refine s_aloadK_n (i := 438) rfl 0 rfl ?_
      refine s_bud (0 + bc) (0 + bs) (by omega) (by omega) ?_
      refine s_iload_n (i := 439) rfl 3 rfl ?_
      refine s_bud (0 + bc) (0 + bs) (by omega) (by omega) ?_
      refine s_iconst (i := 440) rfl (v := (1 : Int32)) (by decide) ?_
      refine s_bud (0 + bc) (0 + bs) (by omega) (by omega) ?_
      refine s_iadd (i := 441) rfl ?_
      refine s_bud (0 + bc) (0 + bs) (by omega) (by omega) ?_
      refine s_ialoadS hX (i := 442) rfl (fun v97 => ?_)
      refine s_bud (0 + bc) (0 + bs) (by omega) (by omega) ?_
      refine u_callVi (kk := 8) [tI v97] l1 [] rfl (i := 443) rfl (c_X8_reach h l1 v97) xm_X8_reach (tw735) rfl (Nat.le_of_ble_eq_true rfl) (xRm.of rfl) ⟨rfl, rfl⟩ (fun q98 => ?_)
      refine s_bud (0 + bc) (0 + bs) (by omega) (by omega) ?_
      refine s_aload_n (i := 444) rfl 2 rfl ?_
      refine s_bud (0 + bc) (0 + bs) (by omega) (by omega) ?_
      refine s_aloadK_n (i := 445) rfl 0 rfl ?_
      refine s_bud (0 + bc) (0 + bs) (by omega) (by omega) ?_
      refine s_iload_n (i := 446) rfl 3 rfl ?_
      refine s_bud (0 + bc) (0 + bs) (by omega) (by omega) ?_
      refine s_iconst (i := 447) rfl (v := (1 : Int32)) (by decide) ?_
      refine s_bud (0 + bc) (0 + bs) (by omega) (by omega) ?_
      refine s_iadd (i := 448) rfl ?_
      refine s_bud (0 + bc) (0 + bs) (by omega) (by omega) ?_
      refine s_ialoadS hX (i := 449) rfl (fun v99 => ?_)
      refine s_bud (0 + bc) (0 + bs) (by omega) (by omega) ?_
      refine u_callVi (kk := 9) [tI v99] l2 [tI q98.1] rfl (i := 450) rfl (c_X9_reach q98.2 l2 v99) xm_X9_reach (tw1308) rfl (Nat.le_of_ble_eq_true rfl) (xRm.of rfl) ⟨rfl, rfl⟩ (fun q100 => ?_)
      refine s_bud (0 + bc) (0 + bs) (by omega) (by omega) ?_
      refine s_icmpeq (i := 451) rfl (tgt := 1323) (by decide) (fun z717 => ?_) (fun z717 => ?_)
      · refine s_bud (0 + bc) (0 + bs) (by omega) (by omega) ?_
        exact s_sub [0, 1, 2, 3] rfl (b_L_law_1323 X xn xs9 hX k_18 bc bs hb hk_18 q100.2 l1 l2 l3)
      · refine s_bud 0 0 (by omega) (by omega) ?_
        refine s_iconst (i := 452) rfl (v := (0 : Int32)) (by decide) ?_
        refine s_bud 0 0 (by omega) (by omega) ?_
        exact s_zret (i := 453) rfl rfl
    refine s_if (P := v4 = (16 : Int32)) (fun z33_16 => ?_) (fun z33_16 => ?_)
    · refine s_table 722 (i := 21) rfl rfl (by rw [z33_16]; rfl) ?_
      refine s_bud (0 + bc) (0 + bs) (by omega) (by omega) ?_
      refine s_aload_n (i := 454) rfl 1 rfl ?_
      refine s_bud (0 + bc) (0 + bs) (by omega) (by omega) ?_
      refine u_callVi (kk := 8) [] l1 [] rfl (i := 455) rfl (c_X8_keys h l1) xm_X8_keys (tw752) rfl (Nat.le_of_ble_eq_true rfl) (xRm.of rfl) ⟨rfl, rfl⟩ (fun q101 => ?_)
      refine s_bud (0 + bc) (0 + bs) (by omega) (by omega) ?_
      refine s_aload_n (i := 456) rfl 2 rfl ?_
      refine s_bud (0 + bc) (0 + bs) (by omega) (by omega) ?_
      refine u_callVi (kk := 9) [] l2 [tI q101.1] rfl (i := 457) rfl (c_X9_keys q101.2 l2) xm_X9_keys (tw1316) rfl (Nat.le_of_ble_eq_true rfl) (xRm.of rfl) ⟨rfl, rfl⟩ (fun q102 => ?_)
      refine s_bud (0 + bc) (0 + bs) (by omega) (by omega) ?_
      refine s_icmpeq (i := 458) rfl (tgt := 1323) (by decide) (fun z730 => ?_) (fun z730 => ?_)
      · refine s_bud (0 + bc) (0 + bs) (by omega) (by omega) ?_
        exact s_sub [0, 1, 2, 3] rfl (b_L_law_1323 X xn xs9 hX k_18 bc bs hb hk_18 q102.2 l1 l2 l3)
      · refine s_bud 0 0 (by omega) (by omega) ?_
        refine s_iconst (i := 459) rfl (v := (0 : Int32)) (by decide) ?_
        refine s_bud 0 0 (by omega) (by omega) ?_
        exact s_zret (i := 460) rfl rfl
    refine s_if (P := v4 = (17 : Int32)) (fun z33_17 => ?_) (fun z33_17 => ?_)
    · refine s_table 735 (i := 21) rfl rfl (by rw [z33_17]; rfl) ?_
      refine s_bud (0 + bc) (0 + bs) (by omega) (by omega) ?_
      refine s_aload_n (i := 461) rfl 1 rfl ?_
      refine s_bud (0 + bc) (0 + bs) (by omega) (by omega) ?_
      refine u_callVi (kk := 8) [] l1 [] rfl (i := 462) rfl (c_X8_gifts h l1) xm_X8_gifts (tw757) rfl (Nat.le_of_ble_eq_true rfl) (xRm.of rfl) ⟨rfl, rfl⟩ (fun q103 => ?_)
      refine s_bud (0 + bc) (0 + bs) (by omega) (by omega) ?_
      refine s_aload_n (i := 463) rfl 2 rfl ?_
      refine s_bud (0 + bc) (0 + bs) (by omega) (by omega) ?_
      refine u_callVi (kk := 9) [] l2 [tI q103.1] rfl (i := 464) rfl (c_X9_gifts q103.2 l2) xm_X9_gifts (tw1324) rfl (Nat.le_of_ble_eq_true rfl) (xRm.of rfl) ⟨rfl, rfl⟩ (fun q104 => ?_)
      refine s_bud (0 + bc) (0 + bs) (by omega) (by omega) ?_
      refine s_icmpeq (i := 465) rfl (tgt := 1323) (by decide) (fun z743 => ?_) (fun z743 => ?_)
      · refine s_bud (0 + bc) (0 + bs) (by omega) (by omega) ?_
        exact s_sub [0, 1, 2, 3] rfl (b_L_law_1323 X xn xs9 hX k_18 bc bs hb hk_18 q104.2 l1 l2 l3)
      · refine s_bud 0 0 (by omega) (by omega) ?_
        refine s_iconst (i := 466) rfl (v := (0 : Int32)) (by decide) ?_
        refine s_bud 0 0 (by omega) (by omega) ?_
        exact s_zret (i := 467) rfl rfl
    refine s_if (P := v4 = (18 : Int32)) (fun z33_18 => ?_) (fun z33_18 => ?_)
    · refine s_table 748 (i := 21) rfl rfl (by rw [z33_18]; rfl) ?_
      refine s_bud (0 + bc) (0 + bs) (by omega) (by omega) ?_
      refine s_aload_n (i := 468) rfl 1 rfl ?_
      refine s_bud (0 + bc) (0 + bs) (by omega) (by omega) ?_
      refine s_aloadK_n (i := 469) rfl 0 rfl ?_
      refine s_bud (0 + bc) (0 + bs) (by omega) (by omega) ?_
      refine s_iload_n (i := 470) rfl 3 rfl ?_
      refine s_bud (0 + bc) (0 + bs) (by omega) (by omega) ?_
      refine s_iconst (i := 471) rfl (v := (1 : Int32)) (by decide) ?_
      refine s_bud (0 + bc) (0 + bs) (by omega) (by omega) ?_
      refine s_iadd (i := 472) rfl ?_
      refine s_bud (0 + bc) (0 + bs) (by omega) (by omega) ?_
      refine s_ialoadS hX (i := 473) rfl (fun v105 => ?_)
      refine s_bud (0 + bc) (0 + bs) (by omega) (by omega) ?_
      refine s_aloadK_n (i := 474) rfl 0 rfl ?_
      refine s_bud (0 + bc) (0 + bs) (by omega) (by omega) ?_
      refine s_iload_n (i := 475) rfl 3 rfl ?_
      refine s_bud (0 + bc) (0 + bs) (by omega) (by omega) ?_
      refine s_iconst (i := 476) rfl (v := (2 : Int32)) (by decide) ?_
      refine s_bud (0 + bc) (0 + bs) (by omega) (by omega) ?_
      refine s_iadd (i := 477) rfl ?_
      refine s_bud (0 + bc) (0 + bs) (by omega) (by omega) ?_
      refine s_ialoadS hX (i := 478) rfl (fun v106 => ?_)
      refine s_bud (0 + bc) (0 + bs) (by omega) (by omega) ?_
      refine u_callVi (kk := 8) [tI v105, tI v106] l1 [] rfl (i := 479) rfl (c_X8_rest h l1 v105 v106) xm_X8_rest (tw766) rfl (Nat.le_of_ble_eq_true rfl) (xRm.of rfl) ⟨rfl, rfl⟩ (fun q107 => ?_)
      refine s_bud (0 + bc) (0 + bs) (by omega) (by omega) ?_
      refine s_aload_n (i := 480) rfl 2 rfl ?_
      refine s_bud (0 + bc) (0 + bs) (by omega) (by omega) ?_
      refine s_aloadK_n (i := 481) rfl 0 rfl ?_
      refine s_bud (0 + bc) (0 + bs) (by omega) (by omega) ?_
      refine s_iload_n (i := 482) rfl 3 rfl ?_
      refine s_bud (0 + bc) (0 + bs) (by omega) (by omega) ?_
      refine s_iconst (i := 483) rfl (v := (1 : Int32)) (by decide) ?_
      refine s_bud (0 + bc) (0 + bs) (by omega) (by omega) ?_
      refine s_iadd (i := 484) rfl ?_
      refine s_bud (0 + bc) (0 + bs) (by omega) (by omega) ?_
      refine s_ialoadS hX (i := 485) rfl (fun v108 => ?_)
      refine s_bud (0 + bc) (0 + bs) (by omega) (by omega) ?_
      refine s_aloadK_n (i := 486) rfl 0 rfl ?_
      refine s_bud (0 + bc) (0 + bs) (by omega) (by omega) ?_
      refine s_iload_n (i := 487) rfl 3 rfl ?_
      refine s_bud (0 + bc) (0 + bs) (by omega) (by omega) ?_
      refine s_iconst (i := 488) rfl (v := (2 : Int32)) (by decide) ?_
      refine s_bud (0 + bc) (0 + bs) (by omega) (by omega) ?_
      refine s_iadd (i := 489) rfl ?_
      refine s_bud (0 + bc) (0 + bs) (by omega) (by omega) ?_
      refine s_ialoadS hX (i := 490) rfl (fun v109 => ?_)
      refine s_bud (0 + bc) (0 + bs) (by omega) (by omega) ?_
      refine u_callVi (kk := 9) [tI v108, tI v109] l2 [tI q107.1] rfl (i := 491) rfl (c_X9_rest q107.2 l2 v108 v109) xm_X9_rest (tw1332) rfl (Nat.le_of_ble_eq_true rfl) (xRm.of rfl) ⟨rfl, rfl⟩ (fun q110 => ?_)
      refine s_bud (0 + bc) (0 + bs) (by omega) (by omega) ?_
      refine s_icmpeq (i := 492) rfl (tgt := 1323) (by decide) (fun z776 => ?_) (fun z776 => ?_)
      · refine s_bud (0 + bc) (0 + bs) (by omega) (by omega) ?_
        exact s_sub [0, 1, 2, 3] rfl (b_L_law_1323 X xn xs9 hX k_18 bc bs hb hk_18 q110.2 l1 l2 l3)
      · refine s_bud 0 0 (by omega) (by omega) ?_
        refine s_iconst (i := 493) rfl (v := (0 : Int32)) (by decide) ?_
        refine s_bud 0 0 (by omega) (by omega) ?_
        exact s_zret (i := 494) rfl rfl
    refine s_if (P := v4 = (19 : Int32)) (fun z33_19 => ?_) (fun z33_19 => ?_)
    · refine s_table 781 (i := 21) rfl rfl (by rw [z33_19]; rfl) ?_
      refine s_bud (0 + bc) (0 + bs) (by omega) (by omega) ?_
      refine s_aload_n (i := 495) rfl 1 rfl ?_
      refine s_bud (0 + bc) (0 + bs) (by omega) (by omega) ?_
      refine s_aloadK_n (i := 496) rfl 0 rfl ?_
      refine s_bud (0 + bc) (0 + bs) (by omega) (by omega) ?_
      refine s_iload_n (i := 497) rfl 3 rfl ?_
      refine s_bud (0 + bc) (0 + bs) (by omega) (by omega) ?_
      refine s_iconst (i := 498) rfl (v := (1 : Int32)) (by decide) ?_
      refine s_bud (0 + bc) (0 + bs) (by omega) (by omega) ?_
      refine s_iadd (i := 499) rfl ?_
      refine s_bud (0 + bc) (0 + bs) (by omega) (by omega) ?_
      refine s_ialoadS hX (i := 500) rfl (fun v111 => ?_)
      refine s_bud (0 + bc) (0 + bs) (by omega) (by omega) ?_
      refine u_callVi (kk := 8) [tI v111] l1 [] rfl (i := 501) rfl (c_X8_moves h l1 v111) xm_X8_moves (tw815) rfl (Nat.le_of_ble_eq_true rfl) (xRm.of rfl) ⟨rfl, rfl⟩ (fun q112 => ?_)
      refine s_bud (0 + bc) (0 + bs) (by omega) (by omega) ?_
      refine s_aload_n (i := 502) rfl 2 rfl ?_
      refine s_bud (0 + bc) (0 + bs) (by omega) (by omega) ?_
      refine s_aloadK_n (i := 503) rfl 0 rfl ?_
      refine s_bud (0 + bc) (0 + bs) (by omega) (by omega) ?_
      refine s_iload_n (i := 504) rfl 3 rfl ?_
      refine s_bud (0 + bc) (0 + bs) (by omega) (by omega) ?_
      refine s_iconst (i := 505) rfl (v := (1 : Int32)) (by decide) ?_
      refine s_bud (0 + bc) (0 + bs) (by omega) (by omega) ?_
      refine s_iadd (i := 506) rfl ?_
      refine s_bud (0 + bc) (0 + bs) (by omega) (by omega) ?_
      refine s_ialoadS hX (i := 507) rfl (fun v113 => ?_)
      refine s_bud (0 + bc) (0 + bs) (by omega) (by omega) ?_
      refine u_callVi (kk := 9) [tI v113] l2 [tI q112.1] rfl (i := 508) rfl (c_X9_moves q112.2 l2 v113) xm_X9_moves (tw1353) rfl (Nat.le_of_ble_eq_true rfl) (xRm.of rfl) ⟨rfl, rfl⟩ (fun q114 => ?_)
      refine s_bud (0 + bc) (0 + bs) (by omega) (by omega) ?_
      refine s_icmpeq (i := 509) rfl (tgt := 1323) (by decide) (fun z799 => ?_) (fun z799 => ?_)
      · refine s_bud (0 + bc) (0 + bs) (by omega) (by omega) ?_
        exact s_sub [0, 1, 2, 3] rfl (b_L_law_1323 X xn xs9 hX k_18 bc bs hb hk_18 q114.2 l1 l2 l3)
      · refine s_bud 0 0 (by omega) (by omega) ?_
        refine s_iconst (i := 510) rfl (v := (0 : Int32)) (by decide) ?_
        refine s_bud 0 0 (by omega) (by omega) ?_
        exact s_zret (i := 511) rfl rfl
    refine s_if (P := v4 = (20 : Int32)) (fun z33_20 => ?_) (fun z33_20 => ?_)
    · refine s_table 804 (i := 21) rfl rfl (by rw [z33_20]; rfl) ?_
      refine s_bud (0 + bc) (0 + bs) (by omega) (by omega) ?_
      refine s_aload_n (i := 512) rfl 1 rfl ?_
      refine s_bud (0 + bc) (0 + bs) (by omega) (by omega) ?_
      refine s_aloadK_n (i := 513) rfl 0 rfl ?_
      refine s_bud (0 + bc) (0 + bs) (by omega) (by omega) ?_
      refine s_iload_n (i := 514) rfl 3 rfl ?_
      refine s_bud (0 + bc) (0 + bs) (by omega) (by omega) ?_
      refine s_iconst (i := 515) rfl (v := (1 : Int32)) (by decide) ?_
      refine s_bud (0 + bc) (0 + bs) (by omega) (by omega) ?_
      refine s_iadd (i := 516) rfl ?_
      refine s_bud (0 + bc) (0 + bs) (by omega) (by omega) ?_
      refine s_ialoadS hX (i := 517) rfl (fun v115 => ?_)
      refine s_bud (0 + bc) (0 + bs) (by omega) (by omega) ?_
      refine u_callVi (kk := 8) [tI v115] l1 [] rfl (i := 518) rfl (c_X8_play h l1 v115) xm_X8_play (tw823) rfl (Nat.le_of_ble_eq_true rfl) (xRm.of rfl) ⟨rfl, rfl⟩ (fun q116 => ?_)
      refine s_bud (0 + bc) (0 + bs) (by omega) (by omega) ?_
      refine s_aload_n (i := 519) rfl 2 rfl ?_
      refine s_bud (0 + bc) (0 + bs) (by omega) (by omega) ?_
      refine s_aloadK_n (i := 520) rfl 0 rfl ?_
      refine s_bud (0 + bc) (0 + bs) (by omega) (by omega) ?_
      refine s_iload_n (i := 521) rfl 3 rfl ?_
      refine s_bud (0 + bc) (0 + bs) (by omega) (by omega) ?_
      refine s_iconst (i := 522) rfl (v := (1 : Int32)) (by decide) ?_
      refine s_bud (0 + bc) (0 + bs) (by omega) (by omega) ?_
      refine s_iadd (i := 523) rfl ?_
      refine s_bud (0 + bc) (0 + bs) (by omega) (by omega) ?_
      refine s_ialoadS hX (i := 524) rfl (fun v117 => ?_)
      refine s_bud (0 + bc) (0 + bs) (by omega) (by omega) ?_
      refine u_callVi (kk := 9) [tI v117] l2 [tI q116.1] rfl (i := 525) rfl (c_X9_play q116.2 l2 v117) xm_X9_play (tw1357) rfl (Nat.le_of_ble_eq_true rfl) (xRm.of rfl) ⟨rfl, rfl⟩ (fun q118 => ?_)
      refine s_bud (0 + bc) (0 + bs) (by omega) (by omega) ?_
      refine s_icmpeq (i := 526) rfl (tgt := 1323) (by decide) (fun z822 => ?_) (fun z822 => ?_)
      · refine s_bud (0 + bc) (0 + bs) (by omega) (by omega) ?_
        exact s_sub [0, 1, 2, 3] rfl (b_L_law_1323 X xn xs9 hX k_18 bc bs hb hk_18 q118.2 l1 l2 l3)
      · refine s_bud 0 0 (by omega) (by omega) ?_
        refine s_iconst (i := 527) rfl (v := (0 : Int32)) (by decide) ?_
        refine s_bud 0 0 (by omega) (by omega) ?_
        exact s_zret (i := 528) rfl rfl
    refine s_if (P := v4 = (21 : Int32)) (fun z33_21 => ?_) (fun z33_21 => ?_)
    · refine s_table 827 (i := 21) rfl rfl (by rw [z33_21]; rfl) ?_
      refine s_bud (0 + bc) (0 + bs) (by omega) (by omega) ?_
      refine s_aload_n (i := 529) rfl 1 rfl ?_
      refine s_bud (0 + bc) (0 + bs) (by omega) (by omega) ?_
      refine s_aloadK_n (i := 530) rfl 0 rfl ?_
      refine s_bud (0 + bc) (0 + bs) (by omega) (by omega) ?_
      refine s_iload_n (i := 531) rfl 3 rfl ?_
      refine s_bud (0 + bc) (0 + bs) (by omega) (by omega) ?_
      refine s_iconst (i := 532) rfl (v := (1 : Int32)) (by decide) ?_
      refine s_bud (0 + bc) (0 + bs) (by omega) (by omega) ?_
      refine s_iadd (i := 533) rfl ?_
      refine s_bud (0 + bc) (0 + bs) (by omega) (by omega) ?_
      refine s_ialoadS hX (i := 534) rfl (fun v119 => ?_)
      refine s_bud (0 + bc) (0 + bs) (by omega) (by omega) ?_
      refine s_aloadK_n (i := 535) rfl 0 rfl ?_
      refine s_bud (0 + bc) (0 + bs) (by omega) (by omega) ?_
      refine s_iload_n (i := 536) rfl 3 rfl ?_
      refine s_bud (0 + bc) (0 + bs) (by omega) (by omega) ?_
      refine s_iconst (i := 537) rfl (v := (2 : Int32)) (by decide) ?_
      refine s_bud (0 + bc) (0 + bs) (by omega) (by omega) ?_
      refine s_iadd (i := 538) rfl ?_
      refine s_bud (0 + bc) (0 + bs) (by omega) (by omega) ?_
      refine s_ialoadS hX (i := 539) rfl (fun v120 => ?_)
      refine s_bud (0 + bc) (0 + bs) (by omega) (by omega) ?_
      refine u_callVi (kk := 8) [tI v119, tI v120] l1 [] rfl (i := 540) rfl (c_X8_which h l1 v119 v120) xm_X8_which (tw829) rfl (Nat.le_of_ble_eq_true rfl) (xRm.of rfl) ⟨rfl, rfl⟩ (fun q121 => ?_)
      refine s_bud (0 + bc) (0 + bs) (by omega) (by omega) ?_
      refine s_aload_n (i := 541) rfl 2 rfl ?_
      refine s_bud (0 + bc) (0 + bs) (by omega) (by omega) ?_
      refine s_aloadK_n (i := 542) rfl 0 rfl ?_
      refine s_bud (0 + bc) (0 + bs) (by omega) (by omega) ?_
      refine s_iload_n (i := 543) rfl 3 rfl ?_
      refine s_bud (0 + bc) (0 + bs) (by omega) (by omega) ?_
      refine s_iconst (i := 544) rfl (v := (1 : Int32)) (by decide) ?_
      refine s_bud (0 + bc) (0 + bs) (by omega) (by omega) ?_
      refine s_iadd (i := 545) rfl ?_
      refine s_bud (0 + bc) (0 + bs) (by omega) (by omega) ?_
      refine s_ialoadS hX (i := 546) rfl (fun v122 => ?_)
      refine s_bud (0 + bc) (0 + bs) (by omega) (by omega) ?_
      refine s_aloadK_n (i := 547) rfl 0 rfl ?_
      refine s_bud (0 + bc) (0 + bs) (by omega) (by omega) ?_
      refine s_iload_n (i := 548) rfl 3 rfl ?_
      refine s_bud (0 + bc) (0 + bs) (by omega) (by omega) ?_
      refine s_iconst (i := 549) rfl (v := (2 : Int32)) (by decide) ?_
      refine s_bud (0 + bc) (0 + bs) (by omega) (by omega) ?_
      refine s_iadd (i := 550) rfl ?_
      refine s_bud (0 + bc) (0 + bs) (by omega) (by omega) ?_
      refine s_ialoadS hX (i := 551) rfl (fun v123 => ?_)
      refine s_bud (0 + bc) (0 + bs) (by omega) (by omega) ?_
      refine u_callVi (kk := 9) [tI v122, tI v123] l2 [tI q121.1] rfl (i := 552) rfl (c_X9_which q121.2 l2 v122 v123) xm_X9_which (tw1364) rfl (Nat.le_of_ble_eq_true rfl) (xRm.of rfl) ⟨rfl, rfl⟩ (fun q124 => ?_)
      refine s_bud (0 + bc) (0 + bs) (by omega) (by omega) ?_
      refine s_icmpeq (i := 553) rfl (tgt := 1323) (by decide) (fun z855 => ?_) (fun z855 => ?_)
      · refine s_bud (0 + bc) (0 + bs) (by omega) (by omega) ?_
        exact s_sub [0, 1, 2, 3] rfl (b_L_law_1323 X xn xs9 hX k_18 bc bs hb hk_18 q124.2 l1 l2 l3)
      · refine s_bud 0 0 (by omega) (by omega) ?_
        refine s_iconst (i := 554) rfl (v := (0 : Int32)) (by decide) ?_
        refine s_bud 0 0 (by omega) (by omega) ?_
        exact s_zret (i := 555) rfl rfl
    refine s_if (P := v4 = (22 : Int32)) (fun z33_22 => ?_) (fun z33_22 => ?_)
    · refine s_table 860 (i := 21) rfl rfl (by rw [z33_22]; rfl) ?_
      refine s_bud (0 + bc) (0 + bs) (by omega) (by omega) ?_
      refine s_aload_n (i := 556) rfl 1 rfl ?_
      refine s_bud (0 + bc) (0 + bs) (by omega) (by omega) ?_
      refine s_aloadK_n (i := 557) rfl 0 rfl ?_
      refine s_bud (0 + bc) (0 + bs) (by omega) (by omega) ?_
      refine s_iload_n (i := 558) rfl 3 rfl ?_
      refine s_bud (0 + bc) (0 + bs) (by omega) (by omega) ?_
      refine s_iconst (i := 559) rfl (v := (1 : Int32)) (by decide) ?_
      refine s_bud (0 + bc) (0 + bs) (by omega) (by omega) ?_
      refine s_iadd (i := 560) rfl ?_
      refine s_bud (0 + bc) (0 + bs) (by omega) (by omega) ?_
      refine s_ialoadS hX (i := 561) rfl (fun v125 => ?_)
      refine s_bud (0 + bc) (0 + bs) (by omega) (by omega) ?_
      refine s_aloadK_n (i := 562) rfl 0 rfl ?_
      refine s_bud (0 + bc) (0 + bs) (by omega) (by omega) ?_
      refine s_iload_n (i := 563) rfl 3 rfl ?_
      refine s_bud (0 + bc) (0 + bs) (by omega) (by omega) ?_
      refine s_iconst (i := 564) rfl (v := (2 : Int32)) (by decide) ?_
      refine s_bud (0 + bc) (0 + bs) (by omega) (by omega) ?_
      refine s_iadd (i := 565) rfl ?_
      refine s_bud (0 + bc) (0 + bs) (by omega) (by omega) ?_
      refine s_ialoadS hX (i := 566) rfl (fun v126 => ?_)
      refine s_bud (0 + bc) (0 + bs) (by omega) (by omega) ?_
      refine s_aloadK_n (i := 567) rfl 0 rfl ?_
      refine s_bud (0 + bc) (0 + bs) (by omega) (by omega) ?_
      refine s_iload_n (i := 568) rfl 3 rfl ?_
      refine s_bud (0 + bc) (0 + bs) (by omega) (by omega) ?_
      refine s_iconst (i := 569) rfl (v := (3 : Int32)) (by decide) ?_
      refine s_bud (0 + bc) (0 + bs) (by omega) (by omega) ?_
      refine s_iadd (i := 570) rfl ?_
      refine s_bud (0 + bc) (0 + bs) (by omega) (by omega) ?_
      refine s_ialoadS hX (i := 571) rfl (fun v127 => ?_)
      refine s_bud (0 + bc) (0 + bs) (by omega) (by omega) ?_
      refine u_callVi (kk := 8) [tI v125, tI v126, tI v127] l1 [] rfl (i := 572) rfl (c_X8_next h l1 v125 v126 v127) xm_X8_next (tw855) rfl (Nat.le_of_ble_eq_true rfl) (xRm.of rfl) ⟨rfl, rfl⟩ (fun q128 => ?_)
      refine s_bud (0 + bc) (0 + bs) (by omega) (by omega) ?_
      refine s_aload_n (i := 573) rfl 2 rfl ?_
      refine s_bud (0 + bc) (0 + bs) (by omega) (by omega) ?_
      refine s_aloadK_n (i := 574) rfl 0 rfl ?_
      refine s_bud (0 + bc) (0 + bs) (by omega) (by omega) ?_
      refine s_iload_n (i := 575) rfl 3 rfl ?_
      refine s_bud (0 + bc) (0 + bs) (by omega) (by omega) ?_
      refine s_iconst (i := 576) rfl (v := (1 : Int32)) (by decide) ?_
      refine s_bud (0 + bc) (0 + bs) (by omega) (by omega) ?_
      refine s_iadd (i := 577) rfl ?_
      refine s_bud (0 + bc) (0 + bs) (by omega) (by omega) ?_
      refine s_ialoadS hX (i := 578) rfl (fun v129 => ?_)
      refine s_bud (0 + bc) (0 + bs) (by omega) (by omega) ?_
      refine s_aloadK_n (i := 579) rfl 0 rfl ?_
      refine s_bud (0 + bc) (0 + bs) (by omega) (by omega) ?_
      refine s_iload_n (i := 580) rfl 3 rfl ?_
      refine s_bud (0 + bc) (0 + bs) (by omega) (by omega) ?_
      refine s_iconst (i := 581) rfl (v := (2 : Int32)) (by decide) ?_
      refine s_bud (0 + bc) (0 + bs) (by omega) (by omega) ?_
      refine s_iadd (i := 582) rfl ?_
      refine s_bud (0 + bc) (0 + bs) (by omega) (by omega) ?_
      refine s_ialoadS hX (i := 583) rfl (fun v130 => ?_)
      refine s_bud (0 + bc) (0 + bs) (by omega) (by omega) ?_
      refine s_aloadK_n (i := 584) rfl 0 rfl ?_
      refine s_bud (0 + bc) (0 + bs) (by omega) (by omega) ?_
      refine s_iload_n (i := 585) rfl 3 rfl ?_
      refine s_bud (0 + bc) (0 + bs) (by omega) (by omega) ?_
      refine s_iconst (i := 586) rfl (v := (3 : Int32)) (by decide) ?_
      refine s_bud (0 + bc) (0 + bs) (by omega) (by omega) ?_
      refine s_iadd (i := 587) rfl ?_
      refine s_bud (0 + bc) (0 + bs) (by omega) (by omega) ?_
      refine s_ialoadS hX (i := 588) rfl (fun v131 => ?_)
      refine s_bud (0 + bc) (0 + bs) (by omega) (by omega) ?_
      refine u_callVi (kk := 9) [tI v129, tI v130, tI v131] l2 [tI q128.1] rfl (i := 589) rfl (c_X9_next_ q128.2 l2 v129 v130 v131) xm_X9_next_ (tw1379) rfl (Nat.le_of_ble_eq_true rfl) (xRm.of rfl) ⟨rfl, rfl⟩ (fun q132 => ?_)
      refine s_bud (0 + bc) (0 + bs) (by omega) (by omega) ?_
      refine s_icmpeq (i := 590) rfl (tgt := 1323) (by decide) (fun z898 => ?_) (fun z898 => ?_)
      · refine s_bud (0 + bc) (0 + bs) (by omega) (by omega) ?_
        exact s_sub [0, 1, 2, 3] rfl (b_L_law_1323 X xn xs9 hX k_18 bc bs hb hk_18 q132.2 l1 l2 l3)
      · refine s_bud 0 0 (by omega) (by omega) ?_
        refine s_iconst (i := 591) rfl (v := (0 : Int32)) (by decide) ?_
        refine s_bud 0 0 (by omega) (by omega) ?_
        exact s_zret (i := 592) rfl rfl
    refine s_if (P := v4 = (23 : Int32)) (fun z33_23 => ?_) (fun z33_23 => ?_)
    · refine s_table 903 (i := 21) rfl rfl (by rw [z33_23]; rfl) ?_
      refine s_bud (0 + bc) (0 + bs) (by omega) (by omega) ?_
      refine s_aload_n (i := 593) rfl 1 rfl ?_
      refine s_bud (0 + bc) (0 + bs) (by omega) (by omega) ?_
      refine s_aloadK_n (i := 594) rfl 0 rfl ?_
      refine s_bud (0 + bc) (0 + bs) (by omega) (by omega) ?_
      refine s_iload_n (i := 595) rfl 3 rfl ?_
      refine s_bud (0 + bc) (0 + bs) (by omega) (by omega) ?_
      refine s_iconst (i := 596) rfl (v := (1 : Int32)) (by decide) ?_
      refine s_bud (0 + bc) (0 + bs) (by omega) (by omega) ?_
      refine s_iadd (i := 597) rfl ?_
      refine s_bud (0 + bc) (0 + bs) (by omega) (by omega) ?_
      refine s_ialoadS hX (i := 598) rfl (fun v133 => ?_)
      refine s_bud (0 + bc) (0 + bs) (by omega) (by omega) ?_
      refine u_callVi (kk := 8) [tI v133] l1 [] rfl (i := 599) rfl (c_X8_judge h l1 v133) xm_X8_judge (tw868) rfl (Nat.le_of_ble_eq_true rfl) (xRm.of rfl) ⟨rfl, rfl⟩ (fun q134 => ?_)
      refine s_bud (0 + bc) (0 + bs) (by omega) (by omega) ?_
      refine s_aload_n (i := 600) rfl 2 rfl ?_
      refine s_bud (0 + bc) (0 + bs) (by omega) (by omega) ?_
      refine s_aloadK_n (i := 601) rfl 0 rfl ?_
      refine s_bud (0 + bc) (0 + bs) (by omega) (by omega) ?_
      refine s_iload_n (i := 602) rfl 3 rfl ?_
      refine s_bud (0 + bc) (0 + bs) (by omega) (by omega) ?_
      refine s_iconst (i := 603) rfl (v := (1 : Int32)) (by decide) ?_
      refine s_bud (0 + bc) (0 + bs) (by omega) (by omega) ?_
      refine s_iadd (i := 604) rfl ?_
      refine s_bud (0 + bc) (0 + bs) (by omega) (by omega) ?_
      refine s_ialoadS hX (i := 605) rfl (fun v135 => ?_)
      refine s_bud (0 + bc) (0 + bs) (by omega) (by omega) ?_
      refine u_callVi (kk := 9) [tI v135] l2 [tI q134.1] rfl (i := 606) rfl (c_X9_judge q134.2 l2 v135) xm_X9_judge (tw1383) rfl (Nat.le_of_ble_eq_true rfl) (xRm.of rfl) ⟨rfl, rfl⟩ (fun q136 => ?_)
      refine s_bud (0 + bc) (0 + bs) (by omega) (by omega) ?_
      refine s_icmpeq (i := 607) rfl (tgt := 1323) (by decide) (fun z921 => ?_) (fun z921 => ?_)
      · refine s_bud (0 + bc) (0 + bs) (by omega) (by omega) ?_
        exact s_sub [0, 1, 2, 3] rfl (b_L_law_1323 X xn xs9 hX k_18 bc bs hb hk_18 q136.2 l1 l2 l3)
      · refine s_bud 0 0 (by omega) (by omega) ?_
        refine s_iconst (i := 608) rfl (v := (0 : Int32)) (by decide) ?_
        refine s_bud 0 0 (by omega) (by omega) ?_
        exact s_zret (i := 609) rfl rfl
    refine s_if (P := v4 = (24 : Int32)) (fun z33_24 => ?_) (fun z33_24 => ?_)
    · refine s_table 926 (i := 21) rfl rfl (by rw [z33_24]; rfl) ?_
      refine s_bud (0 + bc) (0 + bs) (by omega) (by omega) ?_
      refine s_aload_n (i := 610) rfl 1 rfl ?_
      refine s_bud (0 + bc) (0 + bs) (by omega) (by omega) ?_
      refine s_aloadK_n (i := 611) rfl 0 rfl ?_
      refine s_bud (0 + bc) (0 + bs) (by omega) (by omega) ?_
      refine s_iload_n (i := 612) rfl 3 rfl ?_
      refine s_bud (0 + bc) (0 + bs) (by omega) (by omega) ?_
      refine s_iconst (i := 613) rfl (v := (1 : Int32)) (by decide) ?_
      refine s_bud (0 + bc) (0 + bs) (by omega) (by omega) ?_
      refine s_iadd (i := 614) rfl ?_
      refine s_bud (0 + bc) (0 + bs) (by omega) (by omega) ?_
      refine s_ialoadS hX (i := 615) rfl (fun v137 => ?_)
      refine s_bud (0 + bc) (0 + bs) (by omega) (by omega) ?_
      refine u_callVi (kk := 8) [tI v137] l1 [] rfl (i := 616) rfl (c_X8_laws h l1 v137) xm_X8_laws (tw880) rfl (Nat.le_of_ble_eq_true rfl) (xRm.of rfl) ⟨rfl, rfl⟩ (fun q138 => ?_)
      refine s_bud (0 + bc) (0 + bs) (by omega) (by omega) ?_
      refine s_aload_n (i := 617) rfl 2 rfl ?_
      refine s_bud (0 + bc) (0 + bs) (by omega) (by omega) ?_
      refine s_aloadK_n (i := 618) rfl 0 rfl ?_
      refine s_bud (0 + bc) (0 + bs) (by omega) (by omega) ?_
      refine s_iload_n (i := 619) rfl 3 rfl ?_
      refine s_bud (0 + bc) (0 + bs) (by omega) (by omega) ?_
      refine s_iconst (i := 620) rfl (v := (1 : Int32)) (by decide) ?_
      refine s_bud (0 + bc) (0 + bs) (by omega) (by omega) ?_
      refine s_iadd (i := 621) rfl ?_
      refine s_bud (0 + bc) (0 + bs) (by omega) (by omega) ?_
      refine s_ialoadS hX (i := 622) rfl (fun v139 => ?_)
      refine s_bud (0 + bc) (0 + bs) (by omega) (by omega) ?_
      refine u_callVi (kk := 9) [tI v139] l2 [tI q138.1] rfl (i := 623) rfl (c_X9_laws q138.2 l2 v139) xm_X9_laws (tw1391) rfl (Nat.le_of_ble_eq_true rfl) (xRm.of rfl) ⟨rfl, rfl⟩ (fun q140 => ?_)
      refine s_bud (0 + bc) (0 + bs) (by omega) (by omega) ?_
      refine s_icmpeq (i := 624) rfl (tgt := 1323) (by decide) (fun z944 => ?_) (fun z944 => ?_)
      · refine s_bud (0 + bc) (0 + bs) (by omega) (by omega) ?_
        exact s_sub [0, 1, 2, 3] rfl (b_L_law_1323 X xn xs9 hX k_18 bc bs hb hk_18 q140.2 l1 l2 l3)
      · refine s_bud 0 0 (by omega) (by omega) ?_
        refine s_iconst (i := 625) rfl (v := (0 : Int32)) (by decide) ?_
        refine s_bud 0 0 (by omega) (by omega) ?_
        exact s_zret (i := 626) rfl rfl
    refine s_if (P := v4 = (25 : Int32)) (fun z33_25 => ?_) (fun z33_25 => ?_)
    · refine s_table 949 (i := 21) rfl rfl (by rw [z33_25]; rfl) ?_
      refine s_bud (0 + bc) (0 + bs) (by omega) (by omega) ?_
      refine s_aload_n (i := 627) rfl 1 rfl ?_
      refine s_bud (0 + bc) (0 + bs) (by omega) (by omega) ?_
      refine s_aloadK_n (i := 628) rfl 0 rfl ?_
      refine s_bud (0 + bc) (0 + bs) (by omega) (by omega) ?_
      refine s_iload_n (i := 629) rfl 3 rfl ?_
      refine s_bud (0 + bc) (0 + bs) (by omega) (by omega) ?_
      refine s_iconst (i := 630) rfl (v := (1 : Int32)) (by decide) ?_
      refine s_bud (0 + bc) (0 + bs) (by omega) (by omega) ?_
      refine s_iadd (i := 631) rfl ?_
      refine s_bud (0 + bc) (0 + bs) (by omega) (by omega) ?_
      refine s_ialoadS hX (i := 632) rfl (fun v141 => ?_)
      refine s_bud (0 + bc) (0 + bs) (by omega) (by omega) ?_
      refine u_callVi (kk := 8) [tI v141] l1 [] rfl (i := 633) rfl (c_X8_numbers h l1 v141) xm_X8_numbers (tw884) rfl (Nat.le_of_ble_eq_true rfl) (xRm.of rfl) ⟨rfl, rfl⟩ (fun q142 => ?_)
      refine s_bud (0 + bc) (0 + bs) (by omega) (by omega) ?_
      refine s_aload_n (i := 634) rfl 2 rfl ?_
      refine s_bud (0 + bc) (0 + bs) (by omega) (by omega) ?_
      refine s_aloadK_n (i := 635) rfl 0 rfl ?_
      refine s_bud (0 + bc) (0 + bs) (by omega) (by omega) ?_
      refine s_iload_n (i := 636) rfl 3 rfl ?_
      refine s_bud (0 + bc) (0 + bs) (by omega) (by omega) ?_
      refine s_iconst (i := 637) rfl (v := (1 : Int32)) (by decide) ?_
      refine s_bud (0 + bc) (0 + bs) (by omega) (by omega) ?_
      refine s_iadd (i := 638) rfl ?_
      refine s_bud (0 + bc) (0 + bs) (by omega) (by omega) ?_
      refine s_ialoadS hX (i := 639) rfl (fun v143 => ?_)
      refine s_bud (0 + bc) (0 + bs) (by omega) (by omega) ?_
      refine u_callVi (kk := 9) [tI v143] l2 [tI q142.1] rfl (i := 640) rfl (c_X9_numbers q142.2 l2 v143) xm_X9_numbers (tw1395) rfl (Nat.le_of_ble_eq_true rfl) (xRm.of rfl) ⟨rfl, rfl⟩ (fun q144 => ?_)
      refine s_bud (0 + bc) (0 + bs) (by omega) (by omega) ?_
      refine s_icmpeq (i := 641) rfl (tgt := 1323) (by decide) (fun z967 => ?_) (fun z967 => ?_)
      · refine s_bud (0 + bc) (0 + bs) (by omega) (by omega) ?_
        exact s_sub [0, 1, 2, 3] rfl (b_L_law_1323 X xn xs9 hX k_18 bc bs hb hk_18 q144.2 l1 l2 l3)
      · refine s_bud 0 0 (by omega) (by omega) ?_
        refine s_iconst (i := 642) rfl (v := (0 : Int32)) (by decide) ?_
        refine s_bud 0 0 (by omega) (by omega) ?_
        exact s_zret (i := 643) rfl rfl
    refine s_if (P := v4 = (26 : Int32)) (fun z33_26 => ?_) (fun z33_26 => ?_)
    · refine s_table 972 (i := 21) rfl rfl (by rw [z33_26]; rfl) ?_
      refine s_bud (0 + bc) (0 + bs) (by omega) (by omega) ?_
      refine s_aload_n (i := 644) rfl 1 rfl ?_
      refine s_bud (0 + bc) (0 + bs) (by omega) (by omega) ?_
      refine s_aloadK_n (i := 645) rfl 0 rfl ?_
      refine s_bud (0 + bc) (0 + bs) (by omega) (by omega) ?_
      refine s_iload_n (i := 646) rfl 3 rfl ?_
      refine s_bud (0 + bc) (0 + bs) (by omega) (by omega) ?_
      refine s_iconst (i := 647) rfl (v := (1 : Int32)) (by decide) ?_
      refine s_bud (0 + bc) (0 + bs) (by omega) (by omega) ?_
      refine s_iadd (i := 648) rfl ?_
      refine s_bud (0 + bc) (0 + bs) (by omega) (by omega) ?_
      refine s_ialoadS hX (i := 649) rfl (fun v145 => ?_)
      refine s_bud (0 + bc) (0 + bs) (by omega) (by omega) ?_
      refine u_callVi (kk := 8) [tI v145] l1 [] rfl (i := 650) rfl (c_X8_film h l1 v145) xm_X8_film (tw888) rfl (Nat.le_of_ble_eq_true rfl) (xRm.of rfl) ⟨rfl, rfl⟩ (fun q146 => ?_)
      refine s_bud (0 + bc) (0 + bs) (by omega) (by omega) ?_
      refine s_aload_n (i := 651) rfl 2 rfl ?_
      refine s_bud (0 + bc) (0 + bs) (by omega) (by omega) ?_
      refine s_aloadK_n (i := 652) rfl 0 rfl ?_
      refine s_bud (0 + bc) (0 + bs) (by omega) (by omega) ?_
      refine s_iload_n (i := 653) rfl 3 rfl ?_
      refine s_bud (0 + bc) (0 + bs) (by omega) (by omega) ?_
      refine s_iconst (i := 654) rfl (v := (1 : Int32)) (by decide) ?_
      refine s_bud (0 + bc) (0 + bs) (by omega) (by omega) ?_
      refine s_iadd (i := 655) rfl ?_
      refine s_bud (0 + bc) (0 + bs) (by omega) (by omega) ?_
      refine s_ialoadS hX (i := 656) rfl (fun v147 => ?_)
      refine s_bud (0 + bc) (0 + bs) (by omega) (by omega) ?_
      refine u_callVi (kk := 9) [tI v147] l2 [tI q146.1] rfl (i := 657) rfl (c_X9_film q146.2 l2 v147) xm_X9_film (tw1399) rfl (Nat.le_of_ble_eq_true rfl) (xRm.of rfl) ⟨rfl, rfl⟩ (fun q148 => ?_)
      refine s_bud (0 + bc) (0 + bs) (by omega) (by omega) ?_
      refine s_icmpeq (i := 658) rfl (tgt := 1323) (by decide) (fun z990 => ?_) (fun z990 => ?_)
      · refine s_bud (0 + bc) (0 + bs) (by omega) (by omega) ?_
        exact s_sub [0, 1, 2, 3] rfl (b_L_law_1323 X xn xs9 hX k_18 bc bs hb hk_18 q148.2 l1 l2 l3)
      · refine s_bud 0 0 (by omega) (by omega) ?_
        refine s_iconst (i := 659) rfl (v := (0 : Int32)) (by decide) ?_
        refine s_bud 0 0 (by omega) (by omega) ?_
        exact s_zret (i := 660) rfl rfl
    refine s_if (P := v4 = (27 : Int32)) (fun z33_27 => ?_) (fun z33_27 => ?_)
    · refine s_table 995 (i := 21) rfl rfl (by rw [z33_27]; rfl) ?_
      refine s_bud (0 + bc) (0 + bs) (by omega) (by omega) ?_
      refine s_aload_n (i := 661) rfl 1 rfl ?_
      refine s_bud (0 + bc) (0 + bs) (by omega) (by omega) ?_
      refine s_aloadK_n (i := 662) rfl 0 rfl ?_
      refine s_bud (0 + bc) (0 + bs) (by omega) (by omega) ?_
      refine s_iload_n (i := 663) rfl 3 rfl ?_
      refine s_bud (0 + bc) (0 + bs) (by omega) (by omega) ?_
      refine s_iconst (i := 664) rfl (v := (1 : Int32)) (by decide) ?_
      refine s_bud (0 + bc) (0 + bs) (by omega) (by omega) ?_
      refine s_iadd (i := 665) rfl ?_
      refine s_bud (0 + bc) (0 + bs) (by omega) (by omega) ?_
      refine s_ialoadS hX (i := 666) rfl (fun v149 => ?_)
      refine s_bud (0 + bc) (0 + bs) (by omega) (by omega) ?_
      refine u_callVi (kk := 8) [tI v149] l1 [] rfl (i := 667) rfl (c_X8_drawn h l1 v149) xm_X8_drawn (tw903) rfl (Nat.le_of_ble_eq_true rfl) (xRm.of rfl) ⟨rfl, rfl⟩ (fun q150 => ?_)
      refine s_bud (0 + bc) (0 + bs) (by omega) (by omega) ?_
      refine s_aload_n (i := 668) rfl 2 rfl ?_
      refine s_bud (0 + bc) (0 + bs) (by omega) (by omega) ?_
      refine s_aloadK_n (i := 669) rfl 0 rfl ?_
      refine s_bud (0 + bc) (0 + bs) (by omega) (by omega) ?_
      refine s_iload_n (i := 670) rfl 3 rfl ?_
      refine s_bud (0 + bc) (0 + bs) (by omega) (by omega) ?_
      refine s_iconst (i := 671) rfl (v := (1 : Int32)) (by decide) ?_
      refine s_bud (0 + bc) (0 + bs) (by omega) (by omega) ?_
      refine s_iadd (i := 672) rfl ?_
      refine s_bud (0 + bc) (0 + bs) (by omega) (by omega) ?_
      refine s_ialoadS hX (i := 673) rfl (fun v151 => ?_)
      refine s_bud (0 + bc) (0 + bs) (by omega) (by omega) ?_
      refine u_callVi (kk := 9) [tI v151] l2 [tI q150.1] rfl (i := 674) rfl (c_X9_drawn q150.2 l2 v151) xm_X9_drawn (tw1403) rfl (Nat.le_of_ble_eq_true rfl) (xRm.of rfl) ⟨rfl, rfl⟩ (fun q152 => ?_)
      refine s_bud (0 + bc) (0 + bs) (by omega) (by omega) ?_
      refine s_icmpeq (i := 675) rfl (tgt := 1323) (by decide) (fun z1013 => ?_) (fun z1013 => ?_)
      · refine s_bud (0 + bc) (0 + bs) (by omega) (by omega) ?_
        exact s_sub [0, 1, 2, 3] rfl (b_L_law_1323 X xn xs9 hX k_18 bc bs hb hk_18 q152.2 l1 l2 l3)
      · refine s_bud 0 0 (by omega) (by omega) ?_
        refine s_iconst (i := 676) rfl (v := (0 : Int32)) (by decide) ?_
        refine s_bud 0 0 (by omega) (by omega) ?_
        exact s_zret (i := 677) rfl rfl
    refine s_if (P := v4 = (28 : Int32)) (fun z33_28 => ?_) (fun z33_28 => ?_)
    · refine s_table 1018 (i := 21) rfl rfl (by rw [z33_28]; rfl) ?_
      refine s_bud (0 + bc) (0 + bs) (by omega) (by omega) ?_
      refine s_aload_n (i := 678) rfl 1 rfl ?_
      refine s_bud (0 + bc) (0 + bs) (by omega) (by omega) ?_
      refine s_aloadK_n (i := 679) rfl 0 rfl ?_
      refine s_bud (0 + bc) (0 + bs) (by omega) (by omega) ?_
      refine s_iload_n (i := 680) rfl 3 rfl ?_
      refine s_bud (0 + bc) (0 + bs) (by omega) (by omega) ?_
      refine s_iconst (i := 681) rfl (v := (1 : Int32)) (by decide) ?_
      refine s_bud (0 + bc) (0 + bs) (by omega) (by omega) ?_
      refine s_iadd (i := 682) rfl ?_
      refine s_bud (0 + bc) (0 + bs) (by omega) (by omega) ?_
      refine s_ialoadS hX (i := 683) rfl (fun v153 => ?_)
      refine s_bud (0 + bc) (0 + bs) (by omega) (by omega) ?_
      refine s_aloadK_n (i := 684) rfl 0 rfl ?_
      refine s_bud (0 + bc) (0 + bs) (by omega) (by omega) ?_
      refine s_iload_n (i := 685) rfl 3 rfl ?_
      refine s_bud (0 + bc) (0 + bs) (by omega) (by omega) ?_
      refine s_iconst (i := 686) rfl (v := (2 : Int32)) (by decide) ?_
      refine s_bud (0 + bc) (0 + bs) (by omega) (by omega) ?_
      refine s_iadd (i := 687) rfl ?_
      refine s_bud (0 + bc) (0 + bs) (by omega) (by omega) ?_
      refine s_ialoadS hX (i := 688) rfl (fun v154 => ?_)
      refine s_bud (0 + bc) (0 + bs) (by omega) (by omega) ?_
      refine s_aloadK_n (i := 689) rfl 0 rfl ?_
      refine s_bud (0 + bc) (0 + bs) (by omega) (by omega) ?_
      refine s_iload_n (i := 690) rfl 3 rfl ?_
      refine s_bud (0 + bc) (0 + bs) (by omega) (by omega) ?_
      refine s_iconst (i := 691) rfl (v := (3 : Int32)) (by decide) ?_
      refine s_bud (0 + bc) (0 + bs) (by omega) (by omega) ?_
      refine s_iadd (i := 692) rfl ?_
      refine s_bud (0 + bc) (0 + bs) (by omega) (by omega) ?_
      refine s_ialoadS hX (i := 693) rfl (fun v155 => ?_)
      refine s_bud (0 + bc) (0 + bs) (by omega) (by omega) ?_
      refine u_callVl (kk := 8) [tI v153, tI v154, tI v155] l1 [] rfl (i := 694) rfl (c_X8_mean h l1 v153 v154 v155) xm_X8_mean (tw914) rfl (Nat.le_of_ble_eq_true rfl) (xRm.of rfl) ⟨rfl, rfl⟩ (fun q156 => ?_)
      refine s_bud (0 + bc) (0 + bs) (by omega) (by omega) ?_
      refine s_aload_n (i := 695) rfl 2 rfl ?_
      refine s_bud (0 + bc) (0 + bs) (by omega) (by omega) ?_
      refine s_aloadK_n (i := 696) rfl 0 rfl ?_
      refine s_bud (0 + bc) (0 + bs) (by omega) (by omega) ?_
      refine s_iload_n (i := 697) rfl 3 rfl ?_
      refine s_bud (0 + bc) (0 + bs) (by omega) (by omega) ?_
      refine s_iconst (i := 698) rfl (v := (1 : Int32)) (by decide) ?_
      refine s_bud (0 + bc) (0 + bs) (by omega) (by omega) ?_
      refine s_iadd (i := 699) rfl ?_
      refine s_bud (0 + bc) (0 + bs) (by omega) (by omega) ?_
      refine s_ialoadS hX (i := 700) rfl (fun v157 => ?_)
      refine s_bud (0 + bc) (0 + bs) (by omega) (by omega) ?_
      refine s_aloadK_n (i := 701) rfl 0 rfl ?_
      refine s_bud (0 + bc) (0 + bs) (by omega) (by omega) ?_
      refine s_iload_n (i := 702) rfl 3 rfl ?_
      refine s_bud (0 + bc) (0 + bs) (by omega) (by omega) ?_
      refine s_iconst (i := 703) rfl (v := (2 : Int32)) (by decide) ?_
      refine s_bud (0 + bc) (0 + bs) (by omega) (by omega) ?_
      refine s_iadd (i := 704) rfl ?_
      refine s_bud (0 + bc) (0 + bs) (by omega) (by omega) ?_
      refine s_ialoadS hX (i := 705) rfl (fun v158 => ?_)
      refine s_bud (0 + bc) (0 + bs) (by omega) (by omega) ?_
      refine s_aloadK_n (i := 706) rfl 0 rfl ?_
      refine s_bud (0 + bc) (0 + bs) (by omega) (by omega) ?_
      refine s_iload_n (i := 707) rfl 3 rfl ?_
      refine s_bud (0 + bc) (0 + bs) (by omega) (by omega) ?_
      refine s_iconst (i := 708) rfl (v := (3 : Int32)) (by decide) ?_
      refine s_bud (0 + bc) (0 + bs) (by omega) (by omega) ?_
      refine s_iadd (i := 709) rfl ?_
      refine s_bud (0 + bc) (0 + bs) (by omega) (by omega) ?_
      refine s_ialoadS hX (i := 710) rfl (fun v159 => ?_)
      refine s_bud (0 + bc) (0 + bs) (by omega) (by omega) ?_
      refine u_callVl (kk := 9) [tI v157, tI v158, tI v159] l2 [tL q156.1] rfl (i := 711) rfl (c_X9_mean q156.2 l2 v157 v158 v159) xm_X9_mean (tw1414) rfl (Nat.le_of_ble_eq_true rfl) (xRm.of rfl) ⟨rfl, rfl⟩ (fun q160 => ?_)
      refine s_bud (0 + bc) (0 + bs) (by omega) (by omega) ?_
      refine s_lcmp (i := 712) rfl ?_
      refine s_bud (0 + bc) (0 + bs) (by omega) (by omega) ?_
      refine s_ifeq (i := 713) rfl (tgt := 1323) (by decide) (fun z1057 => ?_) (fun z1057 => ?_)
      · refine s_bud (0 + bc) (0 + bs) (by omega) (by omega) ?_
        exact s_sub [0, 1, 2, 3] rfl (b_L_law_1323 X xn xs9 hX k_18 bc bs hb hk_18 q160.2 l1 l2 l3)
      · refine s_bud 0 0 (by omega) (by omega) ?_
        refine s_iconst (i := 714) rfl (v := (0 : Int32)) (by decide) ?_
        refine s_bud 0 0 (by omega) (by omega) ?_
        exact s_zret (i := 715) rfl rfl
    refine s_if (P := v4 = (29 : Int32)) (fun z33_29 => ?_) (fun z33_29 => ?_)
    · refine s_table 1062 (i := 21) rfl rfl (by rw [z33_29]; rfl) ?_
      refine s_bud (0 + bc) (0 + bs) (by omega) (by omega) ?_
      refine s_aload_n (i := 716) rfl 1 rfl ?_
      refine s_bud (0 + bc) (0 + bs) (by omega) (by omega) ?_
      refine u_callVi (kk := 8) [] l1 [] rfl (i := 717) rfl (c_X8_image h l1) xm_X8_image (tw922) rfl (Nat.le_of_ble_eq_true rfl) (xRm.of rfl) ⟨rfl, rfl⟩ (fun q161 => ?_)
      refine s_bud (0 + bc) (0 + bs) (by omega) (by omega) ?_
      refine s_aload_n (i := 718) rfl 2 rfl ?_
      refine s_bud (0 + bc) (0 + bs) (by omega) (by omega) ?_
      refine u_callVi (kk := 9) [] l2 [tI q161.1] rfl (i := 719) rfl (c_X9_image q161.2 l2) xm_X9_image (tw1422) rfl (Nat.le_of_ble_eq_true rfl) (xRm.of rfl) ⟨rfl, rfl⟩ (fun q162 => ?_)
      refine s_bud (0 + bc) (0 + bs) (by omega) (by omega) ?_
      refine s_icmpeq (i := 720) rfl (tgt := 1323) (by decide) (fun z1070 => ?_) (fun z1070 => ?_)
      · refine s_bud (0 + bc) (0 + bs) (by omega) (by omega) ?_
        exact s_sub [0, 1, 2, 3] rfl (b_L_law_1323 X xn xs9 hX k_18 bc bs hb hk_18 q162.2 l1 l2 l3)
      · refine s_bud 0 0 (by omega) (by omega) ?_
        refine s_iconst (i := 721) rfl (v := (0 : Int32)) (by decide) ?_
        refine s_bud 0 0 (by omega) (by omega) ?_
        exact s_zret (i := 722) rfl rfl
    refine s_if (P := v4 = (30 : Int32)) (fun z33_30 => ?_) (fun z33_30 => ?_)
    · refine s_table 1075 (i := 21) rfl rfl (by rw [z33_30]; rfl) ?_
      refine s_bud (0 + bc) (0 + bs) (by omega) (by omega) ?_
      refine s_aload_n (i := 723) rfl 1 rfl ?_
      refine s_bud (0 + bc) (0 + bs) (by omega) (by omega) ?_
      refine u_callVi (kk := 8) [] l1 [] rfl (i := 724) rfl (c_X8_back h l1) xm_X8_back (tw926) rfl (Nat.le_of_ble_eq_true rfl) (xRm.of rfl) ⟨rfl, rfl⟩ (fun q163 => ?_)
      refine s_bud (0 + bc) (0 + bs) (by omega) (by omega) ?_
      refine s_aload_n (i := 725) rfl 2 rfl ?_
      refine s_bud (0 + bc) (0 + bs) (by omega) (by omega) ?_
      refine u_callVi (kk := 9) [] l2 [tI q163.1] rfl (i := 726) rfl (c_X9_back q163.2 l2) xm_X9_back (tw1426) rfl (Nat.le_of_ble_eq_true rfl) (xRm.of rfl) ⟨rfl, rfl⟩ (fun q164 => ?_)
      refine s_bud (0 + bc) (0 + bs) (by omega) (by omega) ?_
      refine s_icmpeq (i := 727) rfl (tgt := 1323) (by decide) (fun z1083 => ?_) (fun z1083 => ?_)
      · refine s_bud (0 + bc) (0 + bs) (by omega) (by omega) ?_
        exact s_sub [0, 1, 2, 3] rfl (b_L_law_1323 X xn xs9 hX k_18 bc bs hb hk_18 q164.2 l1 l2 l3)
      · refine s_bud 0 0 (by omega) (by omega) ?_
        refine s_iconst (i := 728) rfl (v := (0 : Int32)) (by decide) ?_
        refine s_bud 0 0 (by omega) (by omega) ?_
        exact s_zret (i := 729) rfl rfl
    refine s_if (P := v4 = (31 : Int32)) (fun z33_31 => ?_) (fun z33_31 => ?_)
    · refine s_table 1088 (i := 21) rfl rfl (by rw [z33_31]; rfl) ?_
      refine s_bud (0 + bc) (0 + bs) (by omega) (by omega) ?_
      refine s_aload_n (i := 730) rfl 1 rfl ?_
      refine s_bud (0 + bc) (0 + bs) (by omega) (by omega) ?_
      refine s_aloadK_n (i := 731) rfl 0 rfl ?_
      refine s_bud (0 + bc) (0 + bs) (by omega) (by omega) ?_
      refine s_iload_n (i := 732) rfl 3 rfl ?_
      refine s_bud (0 + bc) (0 + bs) (by omega) (by omega) ?_
      refine s_iconst (i := 733) rfl (v := (1 : Int32)) (by decide) ?_
      refine s_bud (0 + bc) (0 + bs) (by omega) (by omega) ?_
      refine s_iadd (i := 734) rfl ?_
      refine s_bud (0 + bc) (0 + bs) (by omega) (by omega) ?_
      refine s_ialoadS hX (i := 735) rfl (fun v165 => ?_)
      refine s_bud (0 + bc) (0 + bs) (by omega) (by omega) ?_
      refine s_aloadK_n (i := 736) rfl 0 rfl ?_
      refine s_bud (0 + bc) (0 + bs) (by omega) (by omega) ?_
      refine s_iload_n (i := 737) rfl 3 rfl ?_
      refine s_bud (0 + bc) (0 + bs) (by omega) (by omega) ?_
      refine s_iconst (i := 738) rfl (v := (2 : Int32)) (by decide) ?_
      refine s_bud (0 + bc) (0 + bs) (by omega) (by omega) ?_
      refine s_iadd (i := 739) rfl ?_
      refine s_bud (0 + bc) (0 + bs) (by omega) (by omega) ?_
      refine s_ialoadS hX (i := 740) rfl (fun v166 => ?_)
      refine s_bud (0 + bc) (0 + bs) (by omega) (by omega) ?_
      refine s_aloadK_n (i := 741) rfl 0 rfl ?_
      refine s_bud (0 + bc) (0 + bs) (by omega) (by omega) ?_
      refine s_iload_n (i := 742) rfl 3 rfl ?_
      refine s_bud (0 + bc) (0 + bs) (by omega) (by omega) ?_
      refine s_iconst (i := 743) rfl (v := (3 : Int32)) (by decide) ?_
      refine s_bud (0 + bc) (0 + bs) (by omega) (by omega) ?_
      refine s_iadd (i := 744) rfl ?_
      refine s_bud (0 + bc) (0 + bs) (by omega) (by omega) ?_
      refine s_ialoadS hX (i := 745) rfl (fun v167 => ?_)
      refine s_bud (0 + bc) (0 + bs) (by omega) (by omega) ?_
      refine u_callVi (kk := 8) [tI v165, tI v166, tI v167] l1 [] rfl (i := 746) rfl (c_X8_sheet h l1 v165 v166 v167) xm_X8_sheet (tw930) rfl (Nat.le_of_ble_eq_true rfl) (xRm.of rfl) ⟨rfl, rfl⟩ (fun q168 => ?_)
      refine s_bud (0 + bc) (0 + bs) (by omega) (by omega) ?_
      refine s_aload_n (i := 747) rfl 2 rfl ?_
      refine s_bud (0 + bc) (0 + bs) (by omega) (by omega) ?_
      refine s_aloadK_n (i := 748) rfl 0 rfl ?_
      refine s_bud (0 + bc) (0 + bs) (by omega) (by omega) ?_
      refine s_iload_n (i := 749) rfl 3 rfl ?_
      refine s_bud (0 + bc) (0 + bs) (by omega) (by omega) ?_
      refine s_iconst (i := 750) rfl (v := (1 : Int32)) (by decide) ?_
      refine s_bud (0 + bc) (0 + bs) (by omega) (by omega) ?_
      refine s_iadd (i := 751) rfl ?_
      refine s_bud (0 + bc) (0 + bs) (by omega) (by omega) ?_
      refine s_ialoadS hX (i := 752) rfl (fun v169 => ?_)
      refine s_bud (0 + bc) (0 + bs) (by omega) (by omega) ?_
      refine s_aloadK_n (i := 753) rfl 0 rfl ?_
      refine s_bud (0 + bc) (0 + bs) (by omega) (by omega) ?_
      refine s_iload_n (i := 754) rfl 3 rfl ?_
      refine s_bud (0 + bc) (0 + bs) (by omega) (by omega) ?_
      refine s_iconst (i := 755) rfl (v := (2 : Int32)) (by decide) ?_
      refine s_bud (0 + bc) (0 + bs) (by omega) (by omega) ?_
      refine s_iadd (i := 756) rfl ?_
      refine s_bud (0 + bc) (0 + bs) (by omega) (by omega) ?_
      refine s_ialoadS hX (i := 757) rfl (fun v170 => ?_)
      refine s_bud (0 + bc) (0 + bs) (by omega) (by omega) ?_
      refine s_aloadK_n (i := 758) rfl 0 rfl ?_
      refine s_bud (0 + bc) (0 + bs) (by omega) (by omega) ?_
      refine s_iload_n (i := 759) rfl 3 rfl ?_
      refine s_bud (0 + bc) (0 + bs) (by omega) (by omega) ?_
      refine s_iconst (i := 760) rfl (v := (3 : Int32)) (by decide) ?_
      refine s_bud (0 + bc) (0 + bs) (by omega) (by omega) ?_
      refine s_iadd (i := 761) rfl ?_
      refine s_bud (0 + bc) (0 + bs) (by omega) (by omega) ?_
      refine s_ialoadS hX (i := 762) rfl (fun v171 => ?_)
      refine s_bud (0 + bc) (0 + bs) (by omega) (by omega) ?_
      refine u_callVi (kk := 9) [tI v169, tI v170, tI v171] l2 [tI q168.1] rfl (i := 763) rfl (c_X9_sheet q168.2 l2 v169 v170 v171) xm_X9_sheet (tw1430) rfl (Nat.le_of_ble_eq_true rfl) (xRm.of rfl) ⟨rfl, rfl⟩ (fun q172 => ?_)
      refine s_bud (0 + bc) (0 + bs) (by omega) (by omega) ?_
      refine s_icmpeq (i := 764) rfl (tgt := 1323) (by decide) (fun z1126 => ?_) (fun z1126 => ?_)
      · refine s_bud (0 + bc) (0 + bs) (by omega) (by omega) ?_
        exact s_sub [0, 1, 2, 3] rfl (b_L_law_1323 X xn xs9 hX k_18 bc bs hb hk_18 q172.2 l1 l2 l3)
      · refine s_bud 0 0 (by omega) (by omega) ?_
        refine s_iconst (i := 765) rfl (v := (0 : Int32)) (by decide) ?_
        refine s_bud 0 0 (by omega) (by omega) ?_
        exact s_zret (i := 766) rfl rfl
    refine s_if (P := v4 = (32 : Int32)) (fun z33_32 => ?_) (fun z33_32 => ?_)
    · refine s_table 1131 (i := 21) rfl rfl (by rw [z33_32]; rfl) ?_
      refine s_bud (0 + bc) (0 + bs) (by omega) (by omega) ?_
      refine s_aload_n (i := 767) rfl 1 rfl ?_
      refine s_bud (0 + bc) (0 + bs) (by omega) (by omega) ?_
      refine s_aloadK_n (i := 768) rfl 0 rfl ?_
      refine s_bud (0 + bc) (0 + bs) (by omega) (by omega) ?_
      refine s_iload_n (i := 769) rfl 3 rfl ?_
      refine s_bud (0 + bc) (0 + bs) (by omega) (by omega) ?_
      refine s_iconst (i := 770) rfl (v := (1 : Int32)) (by decide) ?_
      refine s_bud (0 + bc) (0 + bs) (by omega) (by omega) ?_
      refine s_iadd (i := 771) rfl ?_
      refine s_bud (0 + bc) (0 + bs) (by omega) (by omega) ?_
      refine s_ialoadS hX (i := 772) rfl (fun v173 => ?_)
      refine s_bud (0 + bc) (0 + bs) (by omega) (by omega) ?_
      refine s_aloadK_n (i := 773) rfl 0 rfl ?_
      refine s_bud (0 + bc) (0 + bs) (by omega) (by omega) ?_
      refine s_iload_n (i := 774) rfl 3 rfl ?_
      refine s_bud (0 + bc) (0 + bs) (by omega) (by omega) ?_
      refine s_iconst (i := 775) rfl (v := (2 : Int32)) (by decide) ?_
      refine s_bud (0 + bc) (0 + bs) (by omega) (by omega) ?_
      refine s_iadd (i := 776) rfl ?_
      refine s_bud (0 + bc) (0 + bs) (by omega) (by omega) ?_
      refine s_ialoadS hX (i := 777) rfl (fun v174 => ?_)
      refine s_bud (0 + bc) (0 + bs) (by omega) (by omega) ?_
      refine s_aloadK_n (i := 778) rfl 0 rfl ?_
      refine s_bud (0 + bc) (0 + bs) (by omega) (by omega) ?_
      refine s_iload_n (i := 779) rfl 3 rfl ?_
      refine s_bud (0 + bc) (0 + bs) (by omega) (by omega) ?_
      refine s_iconst (i := 780) rfl (v := (3 : Int32)) (by decide) ?_
      refine s_bud (0 + bc) (0 + bs) (by omega) (by omega) ?_
      refine s_iadd (i := 781) rfl ?_
      refine s_bud (0 + bc) (0 + bs) (by omega) (by omega) ?_
      refine s_ialoadS hX (i := 782) rfl (fun v175 => ?_)
      refine s_bud (0 + bc) (0 + bs) (by omega) (by omega) ?_
      refine u_callVi (kk := 8) [tI v173, tI v174, tI v175] l1 [] rfl (i := 783) rfl (c_X8_cell h l1 v173 v174 v175) xm_X8_cell (tw934) rfl (Nat.le_of_ble_eq_true rfl) (xRm.of rfl) ⟨rfl, rfl⟩ (fun q176 => ?_)
      refine s_bud (0 + bc) (0 + bs) (by omega) (by omega) ?_
      refine s_aload_n (i := 784) rfl 2 rfl ?_
      refine s_bud (0 + bc) (0 + bs) (by omega) (by omega) ?_
      refine s_aloadK_n (i := 785) rfl 0 rfl ?_
      refine s_bud (0 + bc) (0 + bs) (by omega) (by omega) ?_
      refine s_iload_n (i := 786) rfl 3 rfl ?_
      refine s_bud (0 + bc) (0 + bs) (by omega) (by omega) ?_
      refine s_iconst (i := 787) rfl (v := (1 : Int32)) (by decide) ?_
      refine s_bud (0 + bc) (0 + bs) (by omega) (by omega) ?_
      refine s_iadd (i := 788) rfl ?_
      refine s_bud (0 + bc) (0 + bs) (by omega) (by omega) ?_
      refine s_ialoadS hX (i := 789) rfl (fun v177 => ?_)
      refine s_bud (0 + bc) (0 + bs) (by omega) (by omega) ?_
      refine s_aloadK_n (i := 790) rfl 0 rfl ?_
      refine s_bud (0 + bc) (0 + bs) (by omega) (by omega) ?_
      refine s_iload_n (i := 791) rfl 3 rfl ?_
      refine s_bud (0 + bc) (0 + bs) (by omega) (by omega) ?_
      refine s_iconst (i := 792) rfl (v := (2 : Int32)) (by decide) ?_
      refine s_bud (0 + bc) (0 + bs) (by omega) (by omega) ?_
      refine s_iadd (i := 793) rfl ?_
      refine s_bud (0 + bc) (0 + bs) (by omega) (by omega) ?_
      refine s_ialoadS hX (i := 794) rfl (fun v178 => ?_)
      refine s_bud (0 + bc) (0 + bs) (by omega) (by omega) ?_
      refine s_aloadK_n (i := 795) rfl 0 rfl ?_
      refine s_bud (0 + bc) (0 + bs) (by omega) (by omega) ?_
      refine s_iload_n (i := 796) rfl 3 rfl ?_
      refine s_bud (0 + bc) (0 + bs) (by omega) (by omega) ?_
      refine s_iconst (i := 797) rfl (v := (3 : Int32)) (by decide) ?_
      refine s_bud (0 + bc) (0 + bs) (by omega) (by omega) ?_
      refine s_iadd (i := 798) rfl ?_
      refine s_bud (0 + bc) (0 + bs) (by omega) (by omega) ?_
      refine s_ialoadS hX (i := 799) rfl (fun v179 => ?_)
      refine s_bud (0 + bc) (0 + bs) (by omega) (by omega) ?_
      refine u_callVi (kk := 9) [tI v177, tI v178, tI v179] l2 [tI q176.1] rfl (i := 800) rfl (c_X9_cell q176.2 l2 v177 v178 v179) xm_X9_cell (tw1434) rfl (Nat.le_of_ble_eq_true rfl) (xRm.of rfl) ⟨rfl, rfl⟩ (fun q180 => ?_)
      refine s_bud (0 + bc) (0 + bs) (by omega) (by omega) ?_
      refine s_icmpeq (i := 801) rfl (tgt := 1323) (by decide) (fun z1169 => ?_) (fun z1169 => ?_)
      · refine s_bud (0 + bc) (0 + bs) (by omega) (by omega) ?_
        exact s_sub [0, 1, 2, 3] rfl (b_L_law_1323 X xn xs9 hX k_18 bc bs hb hk_18 q180.2 l1 l2 l3)
      · refine s_bud 0 0 (by omega) (by omega) ?_
        refine s_iconst (i := 802) rfl (v := (0 : Int32)) (by decide) ?_
        refine s_bud 0 0 (by omega) (by omega) ?_
        exact s_zret (i := 803) rfl rfl
    refine s_if (P := v4 = (33 : Int32)) (fun z33_33 => ?_) (fun z33_33 => ?_)
    · refine s_table 1174 (i := 21) rfl rfl (by rw [z33_33]; rfl) ?_
      refine s_bud (0 + bc) (0 + bs) (by omega) (by omega) ?_
      refine s_aload_n (i := 804) rfl 1 rfl ?_
      refine s_bud (0 + bc) (0 + bs) (by omega) (by omega) ?_
      refine s_aloadK_n (i := 805) rfl 0 rfl ?_
      refine s_bud (0 + bc) (0 + bs) (by omega) (by omega) ?_
      refine s_iload_n (i := 806) rfl 3 rfl ?_
      refine s_bud (0 + bc) (0 + bs) (by omega) (by omega) ?_
      refine s_iconst (i := 807) rfl (v := (1 : Int32)) (by decide) ?_
      refine s_bud (0 + bc) (0 + bs) (by omega) (by omega) ?_
      refine s_iadd (i := 808) rfl ?_
      refine s_bud (0 + bc) (0 + bs) (by omega) (by omega) ?_
      refine s_ialoadS hX (i := 809) rfl (fun v181 => ?_)
      refine s_bud (0 + bc) (0 + bs) (by omega) (by omega) ?_
      refine s_aloadK_n (i := 810) rfl 0 rfl ?_
      refine s_bud (0 + bc) (0 + bs) (by omega) (by omega) ?_
      refine s_iload_n (i := 811) rfl 3 rfl ?_
      refine s_bud (0 + bc) (0 + bs) (by omega) (by omega) ?_
      refine s_iconst (i := 812) rfl (v := (2 : Int32)) (by decide) ?_
      refine s_bud (0 + bc) (0 + bs) (by omega) (by omega) ?_
      refine s_iadd (i := 813) rfl ?_
      refine s_bud (0 + bc) (0 + bs) (by omega) (by omega) ?_
      refine s_ialoadS hX (i := 814) rfl (fun v182 => ?_)
      refine s_bud (0 + bc) (0 + bs) (by omega) (by omega) ?_
      refine s_aloadK_n (i := 815) rfl 0 rfl ?_
      refine s_bud (0 + bc) (0 + bs) (by omega) (by omega) ?_
      refine s_iload_n (i := 816) rfl 3 rfl ?_
      refine s_bud (0 + bc) (0 + bs) (by omega) (by omega) ?_
      refine s_iconst (i := 817) rfl (v := (3 : Int32)) (by decide) ?_
      refine s_bud (0 + bc) (0 + bs) (by omega) (by omega) ?_
      refine s_iadd (i := 818) rfl ?_
      refine s_bud (0 + bc) (0 + bs) (by omega) (by omega) ?_
      refine s_ialoadS hX (i := 819) rfl (fun v183 => ?_)
      refine s_bud (0 + bc) (0 + bs) (by omega) (by omega) ?_
      refine s_aloadK_n (i := 820) rfl 0 rfl ?_
      refine s_bud (0 + bc) (0 + bs) (by omega) (by omega) ?_
      refine s_iload_n (i := 821) rfl 3 rfl ?_
      refine s_bud (0 + bc) (0 + bs) (by omega) (by omega) ?_
      refine s_iconst (i := 822) rfl (v := (4 : Int32)) (by decide) ?_
      refine s_bud (0 + bc) (0 + bs) (by omega) (by omega) ?_
      refine s_iadd (i := 823) rfl ?_
      refine s_bud (0 + bc) (0 + bs) (by omega) (by omega) ?_
      refine s_ialoadS hX (i := 824) rfl (fun v184 => ?_)
      refine s_bud (0 + bc) (0 + bs) (by omega) (by omega) ?_
      refine s_aloadK_n (i := 825) rfl 0 rfl ?_
      refine s_bud (0 + bc) (0 + bs) (by omega) (by omega) ?_
      refine s_iload_n (i := 826) rfl 3 rfl ?_
      refine s_bud (0 + bc) (0 + bs) (by omega) (by omega) ?_
      refine s_iconst (i := 827) rfl (v := (5 : Int32)) (by decide) ?_
      refine s_bud (0 + bc) (0 + bs) (by omega) (by omega) ?_
      refine s_iadd (i := 828) rfl ?_
      refine s_bud (0 + bc) (0 + bs) (by omega) (by omega) ?_
      refine s_ialoadS hX (i := 829) rfl (fun v185 => ?_)
      refine s_bud (0 + bc) (0 + bs) (by omega) (by omega) ?_
      refine u_callVi (kk := 8) [tI v181, tI v182, tI v183, tI v184, tI v185] l1 [] rfl (i := 830) rfl (c_X8_copy h l1 v181 v182 v183 v184 v185) xm_X8_copy (tw938) rfl (Nat.le_of_ble_eq_true rfl) (xRm.of rfl) ⟨rfl, rfl⟩ (fun q186 => ?_)
      refine s_bud (0 + bc) (0 + bs) (by omega) (by omega) ?_
      refine s_aload_n (i := 831) rfl 2 rfl ?_
      refine s_bud (0 + bc) (0 + bs) (by omega) (by omega) ?_
      refine s_aloadK_n (i := 832) rfl 0 rfl ?_
      refine s_bud (0 + bc) (0 + bs) (by omega) (by omega) ?_
      refine s_iload_n (i := 833) rfl 3 rfl ?_
      refine s_bud (0 + bc) (0 + bs) (by omega) (by omega) ?_
      refine s_iconst (i := 834) rfl (v := (1 : Int32)) (by decide) ?_
      refine s_bud (0 + bc) (0 + bs) (by omega) (by omega) ?_
      refine s_iadd (i := 835) rfl ?_
      refine s_bud (0 + bc) (0 + bs) (by omega) (by omega) ?_
      refine s_ialoadS hX (i := 836) rfl (fun v187 => ?_)
      refine s_bud (0 + bc) (0 + bs) (by omega) (by omega) ?_
      refine s_aloadK_n (i := 837) rfl 0 rfl ?_
      refine s_bud (0 + bc) (0 + bs) (by omega) (by omega) ?_
      refine s_iload_n (i := 838) rfl 3 rfl ?_
      refine s_bud (0 + bc) (0 + bs) (by omega) (by omega) ?_
      refine s_iconst (i := 839) rfl (v := (2 : Int32)) (by decide) ?_
      refine s_bud (0 + bc) (0 + bs) (by omega) (by omega) ?_
      refine s_iadd (i := 840) rfl ?_
      refine s_bud (0 + bc) (0 + bs) (by omega) (by omega) ?_
      refine s_ialoadS hX (i := 841) rfl (fun v188 => ?_)
      refine s_bud (0 + bc) (0 + bs) (by omega) (by omega) ?_
      refine s_aloadK_n (i := 842) rfl 0 rfl ?_
      refine s_bud (0 + bc) (0 + bs) (by omega) (by omega) ?_
      refine s_iload_n (i := 843) rfl 3 rfl ?_
      refine s_bud (0 + bc) (0 + bs) (by omega) (by omega) ?_
      refine s_iconst (i := 844) rfl (v := (3 : Int32)) (by decide) ?_
      refine s_bud (0 + bc) (0 + bs) (by omega) (by omega) ?_
      refine s_iadd (i := 845) rfl ?_
      refine s_bud (0 + bc) (0 + bs) (by omega) (by omega) ?_
      refine s_ialoadS hX (i := 846) rfl (fun v189 => ?_)
      refine s_bud (0 + bc) (0 + bs) (by omega) (by omega) ?_
      refine s_aloadK_n (i := 847) rfl 0 rfl ?_
      refine s_bud (0 + bc) (0 + bs) (by omega) (by omega) ?_
      refine s_iload_n (i := 848) rfl 3 rfl ?_
      refine s_bud (0 + bc) (0 + bs) (by omega) (by omega) ?_
      refine s_iconst (i := 849) rfl (v := (4 : Int32)) (by decide) ?_
      refine s_bud (0 + bc) (0 + bs) (by omega) (by omega) ?_
      refine s_iadd (i := 850) rfl ?_
      refine s_bud (0 + bc) (0 + bs) (by omega) (by omega) ?_
      refine s_ialoadS hX (i := 851) rfl (fun v190 => ?_)
      refine s_bud (0 + bc) (0 + bs) (by omega) (by omega) ?_
      refine s_aloadK_n (i := 852) rfl 0 rfl ?_
      refine s_bud (0 + bc) (0 + bs) (by omega) (by omega) ?_
      refine s_iload_n (i := 853) rfl 3 rfl ?_
      refine s_bud (0 + bc) (0 + bs) (by omega) (by omega) ?_
      refine s_iconst (i := 854) rfl (v := (5 : Int32)) (by decide) ?_
      refine s_bud (0 + bc) (0 + bs) (by omega) (by omega) ?_
      refine s_iadd (i := 855) rfl ?_
      refine s_bud (0 + bc) (0 + bs) (by omega) (by omega) ?_
      refine s_ialoadS hX (i := 856) rfl (fun v191 => ?_)
      refine s_bud (0 + bc) (0 + bs) (by omega) (by omega) ?_
      refine u_callVi (kk := 9) [tI v187, tI v188, tI v189, tI v190, tI v191] l2 [tI q186.1] rfl (i := 857) rfl (c_X9_copy q186.2 l2 v187 v188 v189 v190 v191) xm_X9_copy (tw1438) rfl (Nat.le_of_ble_eq_true rfl) (xRm.of rfl) ⟨rfl, rfl⟩ (fun q192 => ?_)
      refine s_bud (0 + bc) (0 + bs) (by omega) (by omega) ?_
      refine s_icmpeq (i := 858) rfl (tgt := 1323) (by decide) (fun z1232 => ?_) (fun z1232 => ?_)
      · refine s_bud (0 + bc) (0 + bs) (by omega) (by omega) ?_
        exact s_sub [0, 1, 2, 3] rfl (b_L_law_1323 X xn xs9 hX k_18 bc bs hb hk_18 q192.2 l1 l2 l3)
      · refine s_bud 0 0 (by omega) (by omega) ?_
        refine s_iconst (i := 859) rfl (v := (0 : Int32)) (by decide) ?_
        refine s_bud 0 0 (by omega) (by omega) ?_
        exact s_zret (i := 860) rfl rfl
    refine s_if (P := v4 = (34 : Int32)) (fun z33_34 => ?_) (fun z33_34 => ?_)
    · refine s_table 1237 (i := 21) rfl rfl (by rw [z33_34]; rfl) ?_
      refine s_bud (9 + bc) (27 + bs) (by omega) (by omega) ?_
      refine s_aload_n (i := 861) rfl 1 rfl ?_
      refine s_bud (9 + bc) (27 + bs) (by omega) (by omega) ?_
      refine s_aloadK_n (i := 862) rfl 0 rfl ?_
      refine s_bud (9 + bc) (27 + bs) (by omega) (by omega) ?_
      refine s_iload_n (i := 863) rfl 3 rfl ?_
      refine s_bud (9 + bc) (27 + bs) (by omega) (by omega) ?_
      refine s_iconst (i := 864) rfl (v := (1 : Int32)) (by decide) ?_
      refine s_bud (9 + bc) (27 + bs) (by omega) (by omega) ?_
      refine s_iadd (i := 865) rfl ?_
      refine s_bud (9 + bc) (27 + bs) (by omega) (by omega) ?_
      refine s_ialoadS hX (i := 866) rfl (fun v193 => ?_)
      refine s_bud (9 + bc) (27 + bs) (by omega) (by omega) ?_
      refine s_aloadK_n (i := 867) rfl 0 rfl ?_
      refine s_bud (9 + bc) (27 + bs) (by omega) (by omega) ?_
      refine s_iload_n (i := 868) rfl 3 rfl ?_
      refine s_bud (9 + bc) (27 + bs) (by omega) (by omega) ?_
      refine s_iconst (i := 869) rfl (v := (2 : Int32)) (by decide) ?_
      refine s_bud (9 + bc) (27 + bs) (by omega) (by omega) ?_
      refine s_iadd (i := 870) rfl ?_
      refine s_bud (9 + bc) (27 + bs) (by omega) (by omega) ?_
      refine s_ialoadS hX (i := 871) rfl (fun v194 => ?_)
      refine s_bud (9 + bc) (27 + bs) (by omega) (by omega) ?_
      refine s_aloadK_n (i := 872) rfl 0 rfl ?_
      refine s_bud (9 + bc) (27 + bs) (by omega) (by omega) ?_
      refine s_iload_n (i := 873) rfl 3 rfl ?_
      refine s_bud (9 + bc) (27 + bs) (by omega) (by omega) ?_
      refine s_iconst (i := 874) rfl (v := (3 : Int32)) (by decide) ?_
      refine s_bud (9 + bc) (27 + bs) (by omega) (by omega) ?_
      refine s_iadd (i := 875) rfl ?_
      refine s_bud (9 + bc) (27 + bs) (by omega) (by omega) ?_
      refine s_ialoadS hX (i := 876) rfl (fun v195 => ?_)
      refine s_bud (9 + bc) (27 + bs) (by omega) (by omega) ?_
      refine s_aloadK_n (i := 877) rfl 0 rfl ?_
      refine s_bud (9 + bc) (27 + bs) (by omega) (by omega) ?_
      refine s_iload_n (i := 878) rfl 3 rfl ?_
      refine s_bud (9 + bc) (27 + bs) (by omega) (by omega) ?_
      refine s_iconst (i := 879) rfl (v := (4 : Int32)) (by decide) ?_
      refine s_bud (9 + bc) (27 + bs) (by omega) (by omega) ?_
      refine s_iadd (i := 880) rfl ?_
      refine s_bud (9 + bc) (27 + bs) (by omega) (by omega) ?_
      refine s_ialoadS hX (i := 881) rfl (fun v196 => ?_)
      refine s_bud (9 + bc) (27 + bs) (by omega) (by omega) ?_
      refine s_bud (9 + (0 + bc)) (27 + (0 + bs)) (by omega) (by omega) ?_
      refine t_callVi (kk := 8) [tI v193, tI v194, tI v195, tI v196] l1 [] rfl (i := 882) rfl (c_X8_coinsBy h l1 v193 v194 v195 v196) xm_X8_coinsBy (tw947) rfl (Nat.le_of_ble_eq_true rfl) (xRm.of rfl) (fun q197 => ?_)
      refine s_bud (0 + bc) (0 + bs) (by omega) (by omega) ?_
      refine s_aload_n (i := 883) rfl 2 rfl ?_
      refine s_bud (0 + bc) (0 + bs) (by omega) (by omega) ?_
      refine s_aloadK_n (i := 884) rfl 0 rfl ?_
      refine s_bud (0 + bc) (0 + bs) (by omega) (by omega) ?_
      refine s_iload_n (i := 885) rfl 3 rfl ?_
      refine s_bud (0 + bc) (0 + bs) (by omega) (by omega) ?_
      refine s_iconst (i := 886) rfl (v := (1 : Int32)) (by decide) ?_
      refine s_bud (0 + bc) (0 + bs) (by omega) (by omega) ?_
      refine s_iadd (i := 887) rfl ?_
      refine s_bud (0 + bc) (0 + bs) (by omega) (by omega) ?_
      refine s_ialoadS hX (i := 888) rfl (fun v198 => ?_)
      refine s_bud (0 + bc) (0 + bs) (by omega) (by omega) ?_
      refine s_aloadK_n (i := 889) rfl 0 rfl ?_
      refine s_bud (0 + bc) (0 + bs) (by omega) (by omega) ?_
      refine s_iload_n (i := 890) rfl 3 rfl ?_
      refine s_bud (0 + bc) (0 + bs) (by omega) (by omega) ?_
      refine s_iconst (i := 891) rfl (v := (2 : Int32)) (by decide) ?_
      refine s_bud (0 + bc) (0 + bs) (by omega) (by omega) ?_
      refine s_iadd (i := 892) rfl ?_
      refine s_bud (0 + bc) (0 + bs) (by omega) (by omega) ?_
      refine s_ialoadS hX (i := 893) rfl (fun v199 => ?_)
      refine s_bud (0 + bc) (0 + bs) (by omega) (by omega) ?_
      refine s_aloadK_n (i := 894) rfl 0 rfl ?_
      refine s_bud (0 + bc) (0 + bs) (by omega) (by omega) ?_
      refine s_iload_n (i := 895) rfl 3 rfl ?_
      refine s_bud (0 + bc) (0 + bs) (by omega) (by omega) ?_
      refine s_iconst (i := 896) rfl (v := (3 : Int32)) (by decide) ?_
      refine s_bud (0 + bc) (0 + bs) (by omega) (by omega) ?_
      refine s_iadd (i := 897) rfl ?_
      refine s_bud (0 + bc) (0 + bs) (by omega) (by omega) ?_
      refine s_ialoadS hX (i := 898) rfl (fun v200 => ?_)
      refine s_bud (0 + bc) (0 + bs) (by omega) (by omega) ?_
      refine s_aloadK_n (i := 899) rfl 0 rfl ?_
      refine s_bud (0 + bc) (0 + bs) (by omega) (by omega) ?_
      refine s_iload_n (i := 900) rfl 3 rfl ?_
      refine s_bud (0 + bc) (0 + bs) (by omega) (by omega) ?_
      refine s_iconst (i := 901) rfl (v := (4 : Int32)) (by decide) ?_
      refine s_bud (0 + bc) (0 + bs) (by omega) (by omega) ?_
      refine s_iadd (i := 902) rfl ?_
      refine s_bud (0 + bc) (0 + bs) (by omega) (by omega) ?_
      refine s_ialoadS hX (i := 903) rfl (fun v201 => ?_)
      refine s_bud (0 + bc) (0 + bs) (by omega) (by omega) ?_
      refine u_callVi (kk := 9) [tI v198, tI v199, tI v200, tI v201] l2 [tI q197.1] rfl (i := 904) rfl (c_X9_coinsBy q197.2 l2 v198 v199 v200 v201) xm_X9_coinsBy (tw1442) rfl (Nat.le_of_ble_eq_true rfl) (xRm.of rfl) ⟨rfl, rfl⟩ (fun q202 => ?_)
      refine s_bud (0 + bc) (0 + bs) (by omega) (by omega) ?_
      refine s_icmpeq (i := 905) rfl (tgt := 1323) (by decide) (fun z1285 => ?_) (fun z1285 => ?_)
      · refine s_bud (0 + bc) (0 + bs) (by omega) (by omega) ?_
        exact s_sub [0, 1, 2, 3] rfl (b_L_law_1323 X xn xs9 hX k_18 bc bs hb hk_18 q202.2 l1 l2 l3)
      · refine s_bud 0 0 (by omega) (by omega) ?_
        refine s_iconst (i := 906) rfl (v := (0 : Int32)) (by decide) ?_
        refine s_bud 0 0 (by omega) (by omega) ?_
        exact s_zret (i := 907) rfl rfl
    refine s_if (P := v4 = (35 : Int32)) (fun z33_35 => ?_) (fun z33_35 => ?_)
    · refine s_table 1290 (i := 21) rfl rfl (by rw [z33_35]; rfl) ?_
      refine s_bud (0 + bc) (0 + bs) (by omega) (by omega) ?_
      refine s_aload_n (i := 908) rfl 1 rfl ?_
      refine s_bud (0 + bc) (0 + bs) (by omega) (by omega) ?_
      refine s_aloadK_n (i := 909) rfl 0 rfl ?_
      refine s_bud (0 + bc) (0 + bs) (by omega) (by omega) ?_
      refine s_iload_n (i := 910) rfl 3 rfl ?_
      refine s_bud (0 + bc) (0 + bs) (by omega) (by omega) ?_
      refine s_iconst (i := 911) rfl (v := (1 : Int32)) (by decide) ?_
      refine s_bud (0 + bc) (0 + bs) (by omega) (by omega) ?_
      refine s_iadd (i := 912) rfl ?_
      refine s_bud (0 + bc) (0 + bs) (by omega) (by omega) ?_
      refine s_ialoadS hX (i := 913) rfl (fun v203 => ?_)
      refine s_bud (0 + bc) (0 + bs) (by omega) (by omega) ?_
      refine s_aloadK_n (i := 914) rfl 0 rfl ?_
      refine s_bud (0 + bc) (0 + bs) (by omega) (by omega) ?_
      refine s_iload_n (i := 915) rfl 3 rfl ?_
      refine s_bud (0 + bc) (0 + bs) (by omega) (by omega) ?_
      refine s_iconst (i := 916) rfl (v := (2 : Int32)) (by decide) ?_
      refine s_bud (0 + bc) (0 + bs) (by omega) (by omega) ?_
      refine s_iadd (i := 917) rfl ?_
      refine s_bud (0 + bc) (0 + bs) (by omega) (by omega) ?_
      refine s_ialoadS hX (i := 918) rfl (fun v204 => ?_)
      refine s_bud (0 + bc) (0 + bs) (by omega) (by omega) ?_
      refine u_callVi (kk := 8) [tI v203, tI v204] l1 [] rfl (i := 919) rfl (c_X8_taken h l1 v203 v204) xm_X8_taken (tw952) rfl (Nat.le_of_ble_eq_true rfl) (xRm.of rfl) ⟨rfl, rfl⟩ (fun q205 => ?_)
      refine s_bud (0 + bc) (0 + bs) (by omega) (by omega) ?_
      refine s_aload_n (i := 920) rfl 2 rfl ?_
      refine s_bud (0 + bc) (0 + bs) (by omega) (by omega) ?_
      refine s_aloadK_n (i := 921) rfl 0 rfl ?_
      refine s_bud (0 + bc) (0 + bs) (by omega) (by omega) ?_
      refine s_iload_n (i := 922) rfl 3 rfl ?_
      refine s_bud (0 + bc) (0 + bs) (by omega) (by omega) ?_
      refine s_iconst (i := 923) rfl (v := (1 : Int32)) (by decide) ?_
      refine s_bud (0 + bc) (0 + bs) (by omega) (by omega) ?_
      refine s_iadd (i := 924) rfl ?_
      refine s_bud (0 + bc) (0 + bs) (by omega) (by omega) ?_
      refine s_ialoadS hX (i := 925) rfl (fun v206 => ?_)
      refine s_bud (0 + bc) (0 + bs) (by omega) (by omega) ?_
      refine s_aloadK_n (i := 926) rfl 0 rfl ?_
      refine s_bud (0 + bc) (0 + bs) (by omega) (by omega) ?_
      refine s_iload_n (i := 927) rfl 3 rfl ?_
      refine s_bud (0 + bc) (0 + bs) (by omega) (by omega) ?_
      refine s_iconst (i := 928) rfl (v := (2 : Int32)) (by decide) ?_
      refine s_bud (0 + bc) (0 + bs) (by omega) (by omega) ?_
      refine s_iadd (i := 929) rfl ?_
      refine s_bud (0 + bc) (0 + bs) (by omega) (by omega) ?_
      refine s_ialoadS hX (i := 930) rfl (fun v207 => ?_)
      refine s_bud (0 + bc) (0 + bs) (by omega) (by omega) ?_
      refine u_callVi (kk := 9) [tI v206, tI v207] l2 [tI q205.1] rfl (i := 931) rfl (c_X9_taken q205.2 l2 v206 v207) xm_X9_taken (tw1447) rfl (Nat.le_of_ble_eq_true rfl) (xRm.of rfl) ⟨rfl, rfl⟩ (fun q208 => ?_)
      refine s_bud (0 + bc) (0 + bs) (by omega) (by omega) ?_
      refine s_icmpeq (i := 932) rfl (tgt := 1323) (by decide) (fun z1318 => ?_) (fun z1318 => ?_)
      · refine s_bud (0 + bc) (0 + bs) (by omega) (by omega) ?_
        exact s_sub [0, 1, 2, 3] rfl (b_L_law_1323 X xn xs9 hX k_18 bc bs hb hk_18 q208.2 l1 l2 l3)
      · refine s_bud 0 0 (by omega) (by omega) ?_
        refine s_iconst (i := 933) rfl (v := (0 : Int32)) (by decide) ?_
        refine s_bud 0 0 (by omega) (by omega) ?_
        exact s_zret (i := 934) rfl rfl
    refine s_table 1323 (i := 21) rfl rfl (by
      rw [swT_out (fun k h1 h2 => by
        rcases (show k = 0 ∨ k = 1 ∨ k = 2 ∨ k = 3 ∨ k = 4 ∨ k = 5 ∨ k = 6 ∨ k = 7 ∨ k = 8 ∨ k = 9 ∨ k = 10 ∨ k = 11 ∨ k = 12 ∨ k = 13 ∨ k = 14 ∨ k = 15 ∨ k = 16 ∨ k = 17 ∨ k = 18 ∨ k = 19 ∨ k = 20 ∨ k = 21 ∨ k = 22 ∨ k = 23 ∨ k = 24 ∨ k = 25 ∨ k = 26 ∨ k = 27 ∨ k = 28 ∨ k = 29 ∨ k = 30 ∨ k = 31 ∨ k = 32 ∨ k = 33 ∨ k = 34 ∨ k = 35 by omega) with e | e | e | e | e | e | e | e | e | e | e | e | e | e | e | e | e | e | e | e | e | e | e | e | e | e | e | e | e | e | e | e | e | e | e | e <;> subst e
        · exact Or.inr z33_0
        · exact Or.inr z33_1
        · exact Or.inr z33_2
        · exact Or.inr z33_3
        · exact Or.inr z33_4
        · exact Or.inr z33_5
        · exact Or.inr z33_6
        · exact Or.inr z33_7
        · exact Or.inr z33_8
        · exact Or.inr z33_9
        · exact Or.inr z33_10
        · exact Or.inr z33_11
        · exact Or.inr z33_12
        · exact Or.inr z33_13
        · exact Or.inr z33_14
        · exact Or.inr z33_15
        · exact Or.inr z33_16
        · exact Or.inr z33_17
        · exact Or.inr z33_18
        · exact Or.inr z33_19
        · exact Or.inr z33_20
        · exact Or.inr z33_21
        · exact Or.inr z33_22
        · exact Or.inr z33_23
        · exact Or.inr z33_24
        · exact Or.inr z33_25
        · exact Or.inr z33_26
        · exact Or.inr z33_27
        · exact Or.inr z33_28
        · exact Or.inr z33_29
        · exact Or.inr z33_30
        · exact Or.inr z33_31
        · exact Or.inr z33_32
        · exact Or.inr z33_33
        · exact Or.inr z33_34
        · exact Or.inr z33_35)]
      rfl) ?_
    refine s_bud (0 + bc) (0 + bs) (by omega) (by omega) ?_
    exact s_sub [0, 1, 2, 3] rfl (b_L_law_1323 X xn xs9 hX k_18 bc bs hb hk_18 h l1 l2 l3)
set_option maxRecDepth 20000 in
theorem b_L_law_18 (X : XX) (xn : Nat) (xs9 : Nat → Int32) (hX : xScr X xn xs9) : ∀ (n : Nat) (h : XM) (l1 : Option Nat) (l2 : Option Nat) (l3 : Int32), SW X I_L_law ρi 18 [(0, tK 8), (1, tA l1), (2, tA l2), (3, tI l3)] [] h (n * 9 + 0) (n * 603 + 0) (f_L_law_18 xn xs9 n h l1 l2 l3) := by
  intro n
  induction n with
  | zero =>
    intro h l1 l2 l3
    exact s_none
  | succ n ih =>
    intro h l1 l2 l3
    refine s_bud (9 + (n * 9 + 0)) (603 + (n * 603 + 0)) (by rw [Nat.succ_mul]; omega) (by rw [Nat.succ_mul]; omega) ?_
    exact bb_L_law_18 X xn xs9 hX (f_L_law_18 xn xs9 n) (n * 9 + 0) (n * 603 + 0) ⟨by omega, by omega⟩ ih h l1 l2 l3
set_option maxRecDepth 20000 in
theorem b_L_law (X : XX) (xn : Nat) (xs9 : Nat → Int32) (hX : xScr X xn xs9) (h : XM) : SW X I_L_law ρi 0 [(0, tK 8)] [] h 600000 7302250 (f_L_law xn xs9 h) := by
  unfold f_L_law
  refine s_bud 4707 328110 (by omega) (by omega) ?_
  refine s_bud (1 + 4706) (11 + 328099) (by omega) (by omega) ?_
  refine s_new (i := 0) rfl xkc8 (by decide +kernel) ⟨tw87, tw88, tw69⟩ (fun h209 => ?_)
  refine s_bud 4706 328099 (by omega) (by omega) ?_
  refine s_dup (i := 1) rfl rfl ?_
  refine s_bud 4706 328099 (by omega) (by omega) ?_
  refine s_bud (54 + 4652) (7555 + 320544) (by omega) (by omega) ?_
  refine t_callIv [] (some (xc h)) [tA (some (xc h))] rfl (i := 2) rfl (c_X8_init h209 (some (xc h))) xm_X8_init (tw89) rfl (Nat.le_of_ble_eq_true rfl) (xRm.of rfl) (fun q210 => ?_)
  refine s_bud 4652 320544 (by omega) (by omega) ?_
  refine s_astore_n (i := 3) rfl (Nat.le_of_ble_eq_true rfl) (ls2 := [(1, tA (some (xc h))), (0, tK 8)]) rfl ?_
  refine s_bud 4652 320544 (by omega) (by omega) ?_
  refine s_bud (1 + 4651) (49 + 320495) (by omega) (by omega) ?_
  refine s_new (i := 4) rfl xkc9 (by decide +kernel) ⟨tw960, tw961, tw84⟩ (fun h211 => ?_)
  refine s_bud 4651 320495 (by omega) (by omega) ?_
  refine s_dup (i := 5) rfl rfl ?_
  refine s_bud 4651 320495 (by omega) (by omega) ?_
  refine s_bud (25 + 4626) (10553 + 309942) (by omega) (by omega) ?_
  refine t_callIv [] (some (xc q210)) [tA (some (xc q210))] rfl (i := 6) rfl (c_X9_init h211 (some (xc q210))) xm_X9_init (tw962) rfl (Nat.le_of_ble_eq_true rfl) (xRm.of rfl) (fun q212 => ?_)
  refine s_bud 4626 309942 (by omega) (by omega) ?_
  refine s_astore_n (i := 7) rfl (Nat.le_of_ble_eq_true rfl) (ls2 := [(2, tA (some (xc q210))), (1, tA (some (xc h))), (0, tK 8)]) rfl ?_
  refine s_bud 4626 309942 (by omega) (by omega) ?_
  refine s_iconst (i := 8) rfl (v := (0 : Int32)) (by decide) ?_
  refine s_bud 4626 309942 (by omega) (by omega) ?_
  refine s_istore_n (i := 9) rfl (Nat.le_of_ble_eq_true rfl) (ls2 := [(3, tI ((0 : Int32))), (2, tA (some (xc q210))), (1, tA (some (xc h))), (0, tK 8)]) rfl ?_
  refine s_bud (514 * 9 + 0) (514 * 603 + 0) (by omega) (by omega) ?_
  exact s_sub [3, 2, 1, 0] rfl (b_L_law_18 X xn xs9 hX 514 q212 (some (xc h)) (some (xc q210)) ((0 : Int32)))
