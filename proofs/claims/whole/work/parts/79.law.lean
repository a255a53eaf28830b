/-! the law's loop -/
def t_law : MT := (yL_law, cL_law, 9, some .int, [], [])
def LL (i : Int) : Lo := [some (vR 47), some (vR 0), some (vR 27), some (vR 46), some (vI i), none, none, none, none]
def LK (i kk : Int) : Lo := [some (vR 47), some (vR 0), some (vR 27), some (vR 46), some (vI i), some (vI kk), none, none, none]
def scI (xs : Nat → Int32) (i j : Int) : Int := (xs (i + j).toNat).toInt
theorem scI_in (xs : Nat → Int32) (i j : Int) : Inr (scI xs i j) := tI_inr _
abbrev argPg (p : Nat) (j : Int) : Pg := [(p, .aload_n 0, 1), (p + 1, .iload 4, 2), (p + 3, .iconst j, 1), (p + 4, .iadd, 1), (p + 5, .iaload, 1)]
abbrev tailPg (p : Nat) (off : Int) : Pg := [(p, .istore 6, 2), (p + 2, .aload_n 2, 1), (p + 3, .invokevirtual 94, 3), (p + 6, .iload 5, 2), (p + 8, .if_icmp .eq 5, 3), (p + 11, .iconst 0, 1), (p + 12, .ireturn, 1), (p + 13, .iload 5, 2), (p + 15, .ifCond .ne 15, 3), (p + 18, .aload_n 3, 1), (p + 19, .iconst 0, 1), (p + 20, .laload, 1), (p + 21, .iload 6, 2), (p + 23, .i2l, 1), (p + 24, .lcmp, 1), (p + 25, .ifCond .eq 5, 3), (p + 28, .iconst 0, 1), (p + 29, .ireturn, 1), (p + 30, .goto off, 3)]
theorem kl_thrown : Cond.methodLink RL 94 yX8_thrown ∈ lw_big := bm 1069 _ (by decide +kernel) (by decide +kernel)
theorem mc_le (kb : Bool) : mcOf kb ≤ 1 := by cases kb <;> decide
theorem ms_le (kb : Bool) : msOf kb ≤ 6 := by cases kb <;> decide
theorem lc0_d : dcB (mC t_law) [(160, .aload_n 1, 1), (161, .invokevirtual 83, 3), (164, .aload_n 2, 1), (165, .invokevirtual 87, 3), (168, .if_icmp .eq 1532, 3)] = true := by decide +kernel
theorem lc1_d : dcB (mC t_law) [(173, .aload_n 1, 1), (174, .aload_n 0, 1), (175, .iload 4, 2), (177, .iconst 1, 1), (178, .iadd, 1), (179, .iaload, 1), (180, .aload_n 0, 1), (181, .iload 4, 2), (183, .iconst 2, 1), (184, .iadd, 1), (185, .iaload, 1), (186, .aload_n 3, 1), (187, .invokestatic 88, 3), (190, .istore 5, 2), (192, .aload_n 2, 1), (193, .aload_n 0, 1), (194, .iload 4, 2), (196, .iconst 1, 1), (197, .iadd, 1), (198, .iaload, 1), (199, .aload_n 0, 1), (200, .iload 4, 2), (202, .iconst 2, 1), (203, .iadd, 1), (204, .iaload, 1), (205, .invokevirtual 93, 3)] = true := by decide +kernel
theorem lc1_t : dcB (mC t_law) (tailPg 208 1462) = true := by decide +kernel
theorem lc1_a33 : dcB (mC t_law) (argPg 174 1) = true := by decide +kernel
theorem lc1_a47 : dcB (mC t_law) (argPg 193 1) = true := by decide +kernel
theorem lc1_a38 : dcB (mC t_law) (argPg 180 2) = true := by decide +kernel
theorem lc1_a52 : dcB (mC t_law) (argPg 199 2) = true := by decide +kernel
theorem lc2_d : dcB (mC t_law) [(241, .aload_n 1, 1), (242, .aload_n 0, 1), (243, .iload 4, 2), (245, .iconst 1, 1), (246, .iadd, 1), (247, .iaload, 1), (248, .aload_n 0, 1), (249, .iload 4, 2), (251, .iconst 2, 1), (252, .iadd, 1), (253, .iaload, 1), (254, .aload_n 0, 1), (255, .iload 4, 2), (257, .iconst 3, 1), (258, .iadd, 1), (259, .iaload, 1), (260, .aload_n 3, 1), (261, .invokestatic 97, 3), (264, .istore 5, 2), (266, .aload_n 2, 1), (267, .aload_n 0, 1), (268, .iload 4, 2), (270, .iconst 1, 1), (271, .iadd, 1), (272, .iaload, 1), (273, .aload_n 0, 1), (274, .iload 4, 2), (276, .iconst 2, 1), (277, .iadd, 1), (278, .iaload, 1), (279, .aload_n 0, 1), (280, .iload 4, 2), (282, .iconst 3, 1), (283, .iadd, 1), (284, .iaload, 1), (285, .invokevirtual 100, 3)] = true := by decide +kernel
theorem lc2_t : dcB (mC t_law) (tailPg 288 1382) = true := by decide +kernel
theorem lc2_a78 : dcB (mC t_law) (argPg 242 1) = true := by decide +kernel
theorem lc2_a97 : dcB (mC t_law) (argPg 267 1) = true := by decide +kernel
theorem lc2_a83 : dcB (mC t_law) (argPg 248 2) = true := by decide +kernel
theorem lc2_a102 : dcB (mC t_law) (argPg 273 2) = true := by decide +kernel
theorem lc2_a88 : dcB (mC t_law) (argPg 254 3) = true := by decide +kernel
theorem lc2_a107 : dcB (mC t_law) (argPg 279 3) = true := by decide +kernel
theorem lc3_d : dcB (mC t_law) [(321, .aload_n 1, 1), (322, .aload_n 0, 1), (323, .iload 4, 2), (325, .iconst 1, 1), (326, .iadd, 1), (327, .iaload, 1), (328, .aload_n 3, 1), (329, .invokestatic 101, 3), (332, .istore 5, 2), (334, .aload_n 2, 1), (335, .aload_n 0, 1), (336, .iload 4, 2), (338, .iconst 1, 1), (339, .iadd, 1), (340, .iaload, 1), (341, .invokevirtual 104, 3)] = true := by decide +kernel
theorem lc3_t : dcB (mC t_law) (tailPg 344 1326) = true := by decide +kernel
theorem lc3_a133 : dcB (mC t_law) (argPg 322 1) = true := by decide +kernel
theorem lc3_a142 : dcB (mC t_law) (argPg 335 1) = true := by decide +kernel
theorem lc4_d : dcB (mC t_law) [(377, .aload_n 1, 1), (378, .invokevirtual 105, 3), (381, .aload_n 2, 1), (382, .invokevirtual 108, 3), (385, .if_icmp .eq 1315, 3)] = true := by decide +kernel
theorem lc5_d : dcB (mC t_law) [(390, .aload_n 1, 1), (391, .invokevirtual 109, 3), (394, .aload_n 2, 1), (395, .invokevirtual 112, 3), (398, .if_icmp .eq 1302, 3)] = true := by decide +kernel
theorem lc6_d : dcB (mC t_law) [(403, .aload_n 1, 1), (404, .aload_n 0, 1), (405, .iload 4, 2), (407, .iconst 1, 1), (408, .iadd, 1), (409, .iaload, 1), (410, .aload_n 3, 1), (411, .invokestatic 113, 3), (414, .istore 5, 2), (416, .aload_n 2, 1), (417, .aload_n 0, 1), (418, .iload 4, 2), (420, .iconst 1, 1), (421, .iadd, 1), (422, .iaload, 1), (423, .invokevirtual 115, 3)] = true := by decide +kernel
theorem lc6_t : dcB (mC t_law) (tailPg 426 1244) = true := by decide +kernel
theorem lc6_a182 : dcB (mC t_law) (argPg 404 1) = true := by decide +kernel
theorem lc6_a191 : dcB (mC t_law) (argPg 417 1) = true := by decide +kernel
theorem lc7_d : dcB (mC t_law) [(459, .aload_n 1, 1), (460, .aload_n 0, 1), (461, .iload 4, 2), (463, .iconst 1, 1), (464, .iadd, 1), (465, .iaload, 1), (466, .aload_n 0, 1), (467, .iload 4, 2), (469, .iconst 2, 1), (470, .iadd, 1), (471, .iaload, 1), (472, .aload_n 0, 1), (473, .iload 4, 2), (475, .iconst 3, 1), (476, .iadd, 1), (477, .iaload, 1), (478, .aload_n 3, 1), (479, .invokestatic 116, 3), (482, .istore 5, 2), (484, .aload_n 2, 1), (485, .aload_n 0, 1), (486, .iload 4, 2), (488, .iconst 1, 1), (489, .iadd, 1), (490, .iaload, 1), (491, .aload_n 0, 1), (492, .iload 4, 2), (494, .iconst 2, 1), (495, .iadd, 1), (496, .iaload, 1), (497, .aload_n 0, 1), (498, .iload 4, 2), (500, .iconst 3, 1), (501, .iadd, 1), (502, .iaload, 1), (503, .invokevirtual 118, 3)] = true := by decide +kernel
theorem lc7_t : dcB (mC t_law) (tailPg 506 1164) = true := by decide +kernel
theorem lc7_a217 : dcB (mC t_law) (argPg 460 1) = true := by decide +kernel
theorem lc7_a236 : dcB (mC t_law) (argPg 485 1) = true := by decide +kernel
theorem lc7_a222 : dcB (mC t_law) (argPg 466 2) = true := by decide +kernel
theorem lc7_a241 : dcB (mC t_law) (argPg 491 2) = true := by decide +kernel
theorem lc7_a227 : dcB (mC t_law) (argPg 472 3) = true := by decide +kernel
theorem lc7_a246 : dcB (mC t_law) (argPg 497 3) = true := by decide +kernel
theorem lc8_d : dcB (mC t_law) [(539, .aload_n 1, 1), (540, .aload_n 0, 1), (541, .iload 4, 2), (543, .iconst 1, 1), (544, .iadd, 1), (545, .iaload, 1), (546, .aload_n 0, 1), (547, .iload 4, 2), (549, .iconst 2, 1), (550, .iadd, 1), (551, .iaload, 1), (552, .aload_n 3, 1), (553, .invokestatic 119, 3), (556, .istore 5, 2), (558, .aload_n 2, 1), (559, .aload_n 0, 1), (560, .iload 4, 2), (562, .iconst 1, 1), (563, .iadd, 1), (564, .iaload, 1), (565, .aload_n 0, 1), (566, .iload 4, 2), (568, .iconst 2, 1), (569, .iadd, 1), (570, .iaload, 1), (571, .invokevirtual 121, 3)] = true := by decide +kernel
theorem lc8_t : dcB (mC t_law) (tailPg 574 1096) = true := by decide +kernel
theorem lc8_a272 : dcB (mC t_law) (argPg 540 1) = true := by decide +kernel
theorem lc8_a286 : dcB (mC t_law) (argPg 559 1) = true := by decide +kernel
theorem lc8_a277 : dcB (mC t_law) (argPg 546 2) = true := by decide +kernel
theorem lc8_a291 : dcB (mC t_law) (argPg 565 2) = true := by decide +kernel
theorem lc9_d : dcB (mC t_law) [(607, .aload_n 1, 1), (608, .aload_n 0, 1), (609, .iload 4, 2), (611, .iconst 1, 1), (612, .iadd, 1), (613, .iaload, 1), (614, .aload_n 0, 1), (615, .iload 4, 2), (617, .iconst 2, 1), (618, .iadd, 1), (619, .iaload, 1), (620, .aload_n 3, 1), (621, .invokestatic 122, 3), (624, .istore 5, 2), (626, .aload_n 2, 1), (627, .aload_n 0, 1), (628, .iload 4, 2), (630, .iconst 1, 1), (631, .iadd, 1), (632, .iaload, 1), (633, .aload_n 0, 1), (634, .iload 4, 2), (636, .iconst 2, 1), (637, .iadd, 1), (638, .iaload, 1), (639, .invokevirtual 124, 3)] = true := by decide +kernel
theorem lc9_t : dcB (mC t_law) (tailPg 642 1028) = true := by decide +kernel
theorem lc9_a317 : dcB (mC t_law) (argPg 608 1) = true := by decide +kernel
theorem lc9_a331 : dcB (mC t_law) (argPg 627 1) = true := by decide +kernel
theorem lc9_a322 : dcB (mC t_law) (argPg 614 2) = true := by decide +kernel
theorem lc9_a336 : dcB (mC t_law) (argPg 633 2) = true := by decide +kernel
theorem lc10_d : dcB (mC t_law) [(675, .aload_n 1, 1), (676, .aload_n 0, 1), (677, .iload 4, 2), (679, .iconst 1, 1), (680, .iadd, 1), (681, .iaload, 1), (682, .aload_n 0, 1), (683, .iload 4, 2), (685, .iconst 2, 1), (686, .iadd, 1), (687, .iaload, 1), (688, .aload_n 0, 1), (689, .iload 4, 2), (691, .iconst 3, 1), (692, .iadd, 1), (693, .iaload, 1), (694, .aload_n 0, 1), (695, .iload 4, 2), (697, .iconst 4, 1), (698, .iadd, 1), (699, .iaload, 1), (700, .aload_n 3, 1), (701, .invokestatic 125, 3), (704, .istore 5, 2), (706, .aload_n 2, 1), (707, .aload_n 0, 1), (708, .iload 4, 2), (710, .iconst 1, 1), (711, .iadd, 1), (712, .iaload, 1), (713, .aload_n 0, 1), (714, .iload 4, 2), (716, .iconst 2, 1), (717, .iadd, 1), (718, .iaload, 1), (719, .aload_n 0, 1), (720, .iload 4, 2), (722, .iconst 3, 1), (723, .iadd, 1), (724, .iaload, 1), (725, .aload_n 0, 1), (726, .iload 4, 2), (728, .iconst 4, 1), (729, .iadd, 1), (730, .iaload, 1), (731, .invokevirtual 128, 3)] = true := by decide +kernel
theorem lc10_t : dcB (mC t_law) (tailPg 734 936) = true := by decide +kernel
theorem lc10_a362 : dcB (mC t_law) (argPg 676 1) = true := by decide +kernel
theorem lc10_a386 : dcB (mC t_law) (argPg 707 1) = true := by decide +kernel
theorem lc10_a367 : dcB (mC t_law) (argPg 682 2) = true := by decide +kernel
theorem lc10_a391 : dcB (mC t_law) (argPg 713 2) = true := by decide +kernel
theorem lc10_a372 : dcB (mC t_law) (argPg 688 3) = true := by decide +kernel
theorem lc10_a396 : dcB (mC t_law) (argPg 719 3) = true := by decide +kernel
theorem lc10_a377 : dcB (mC t_law) (argPg 694 4) = true := by decide +kernel
theorem lc10_a401 : dcB (mC t_law) (argPg 725 4) = true := by decide +kernel
theorem lc11_d : dcB (mC t_law) [(767, .aload_n 1, 1), (768, .invokevirtual 129, 3), (771, .aload_n 2, 1), (772, .invokevirtual 132, 3), (775, .if_icmp .eq 925, 3)] = true := by decide +kernel
theorem lc12_d : dcB (mC t_law) [(780, .aload_n 1, 1), (781, .aload_n 0, 1), (782, .iload 4, 2), (784, .iconst 1, 1), (785, .iadd, 1), (786, .iaload, 1), (787, .aload_n 0, 1), (788, .iload 4, 2), (790, .iconst 2, 1), (791, .iadd, 1), (792, .iaload, 1), (793, .aload_n 0, 1), (794, .iload 4, 2), (796, .iconst 3, 1), (797, .iadd, 1), (798, .iaload, 1), (799, .aload_n 0, 1), (800, .iload 4, 2), (802, .iconst 4, 1), (803, .iadd, 1), (804, .iaload, 1), (805, .aload_n 3, 1), (806, .invokestatic 133, 3), (809, .istore 5, 2), (811, .aload_n 2, 1), (812, .aload_n 0, 1), (813, .iload 4, 2), (815, .iconst 1, 1), (816, .iadd, 1), (817, .iaload, 1), (818, .aload_n 0, 1), (819, .iload 4, 2), (821, .iconst 2, 1), (822, .iadd, 1), (823, .iaload, 1), (824, .aload_n 0, 1), (825, .iload 4, 2), (827, .iconst 3, 1), (828, .iadd, 1), (829, .iaload, 1), (830, .aload_n 0, 1), (831, .iload 4, 2), (833, .iconst 4, 1), (834, .iadd, 1), (835, .iaload, 1), (836, .invokevirtual 135, 3)] = true := by decide +kernel
theorem lc12_t : dcB (mC t_law) (tailPg 839 831) = true := by decide +kernel
theorem lc12_a434 : dcB (mC t_law) (argPg 781 1) = true := by decide +kernel
theorem lc12_a458 : dcB (mC t_law) (argPg 812 1) = true := by decide +kernel
theorem lc12_a439 : dcB (mC t_law) (argPg 787 2) = true := by decide +kernel
theorem lc12_a463 : dcB (mC t_law) (argPg 818 2) = true := by decide +kernel
theorem lc12_a444 : dcB (mC t_law) (argPg 793 3) = true := by decide +kernel
theorem lc12_a468 : dcB (mC t_law) (argPg 824 3) = true := by decide +kernel
theorem lc12_a449 : dcB (mC t_law) (argPg 799 4) = true := by decide +kernel
theorem lc12_a473 : dcB (mC t_law) (argPg 830 4) = true := by decide +kernel
theorem lc13_d : dcB (mC t_law) [(872, .aload_n 1, 1), (873, .aload_n 0, 1), (874, .iload 4, 2), (876, .iconst 1, 1), (877, .iadd, 1), (878, .iaload, 1), (879, .aload_n 3, 1), (880, .invokestatic 136, 3), (883, .istore 5, 2), (885, .aload_n 2, 1), (886, .aload_n 0, 1), (887, .iload 4, 2), (889, .iconst 1, 1), (890, .iadd, 1), (891, .iaload, 1), (892, .invokevirtual 138, 3)] = true := by decide +kernel
theorem lc13_t : dcB (mC t_law) (tailPg 895 775) = true := by decide +kernel
theorem lc13_a499 : dcB (mC t_law) (argPg 873 1) = true := by decide +kernel
theorem lc13_a508 : dcB (mC t_law) (argPg 886 1) = true := by decide +kernel
theorem lc14_d : dcB (mC t_law) [(928, .aload_n 1, 1), (929, .invokevirtual 139, 3), (932, .aload_n 2, 1), (933, .invokevirtual 142, 3), (936, .if_icmp .eq 764, 3)] = true := by decide +kernel
theorem lc15_d : dcB (mC t_law) [(941, .aload_n 1, 1), (942, .aload_n 0, 1), (943, .iload 4, 2), (945, .iconst 1, 1), (946, .iadd, 1), (947, .iaload, 1), (948, .aload_n 3, 1), (949, .invokestatic 143, 3), (952, .istore 5, 2), (954, .aload_n 2, 1), (955, .aload_n 0, 1), (956, .iload 4, 2), (958, .iconst 1, 1), (959, .iadd, 1), (960, .iaload, 1), (961, .invokevirtual 145, 3)] = true := by decide +kernel
theorem lc15_t : dcB (mC t_law) (tailPg 964 706) = true := by decide +kernel
theorem lc15_a541 : dcB (mC t_law) (argPg 942 1) = true := by decide +kernel
theorem lc15_a550 : dcB (mC t_law) (argPg 955 1) = true := by decide +kernel
theorem lc16_d : dcB (mC t_law) [(997, .aload_n 1, 1), (998, .aload_n 0, 1), (999, .iload 4, 2), (1001, .iconst 1, 1), (1002, .iadd, 1), (1003, .iaload, 1), (1004, .aload_n 0, 1), (1005, .iload 4, 2), (1007, .iconst 2, 1), (1008, .iadd, 1), (1009, .iaload, 1), (1010, .aload_n 3, 1), (1011, .invokestatic 146, 3), (1014, .istore 5, 2), (1016, .aload_n 2, 1), (1017, .aload_n 0, 1), (1018, .iload 4, 2), (1020, .iconst 1, 1), (1021, .iadd, 1), (1022, .iaload, 1), (1023, .aload_n 0, 1), (1024, .iload 4, 2), (1026, .iconst 2, 1), (1027, .iadd, 1), (1028, .iaload, 1), (1029, .invokevirtual 148, 3)] = true := by decide +kernel
theorem lc16_t : dcB (mC t_law) (tailPg 1032 638) = true := by decide +kernel
theorem lc16_a576 : dcB (mC t_law) (argPg 998 1) = true := by decide +kernel
theorem lc16_a590 : dcB (mC t_law) (argPg 1017 1) = true := by decide +kernel
theorem lc16_a581 : dcB (mC t_law) (argPg 1004 2) = true := by decide +kernel
theorem lc16_a595 : dcB (mC t_law) (argPg 1023 2) = true := by decide +kernel
theorem lc17_d : dcB (mC t_law) [(1065, .aload_n 1, 1), (1066, .aload_n 0, 1), (1067, .iload 4, 2), (1069, .iconst 1, 1), (1070, .iadd, 1), (1071, .iaload, 1), (1072, .aload_n 0, 1), (1073, .iload 4, 2), (1075, .iconst 2, 1), (1076, .iadd, 1), (1077, .iaload, 1), (1078, .aload_n 3, 1), (1079, .invokestatic 149, 3), (1082, .istore 5, 2), (1084, .aload_n 2, 1), (1085, .aload_n 0, 1), (1086, .iload 4, 2), (1088, .iconst 1, 1), (1089, .iadd, 1), (1090, .iaload, 1), (1091, .aload_n 0, 1), (1092, .iload 4, 2), (1094, .iconst 2, 1), (1095, .iadd, 1), (1096, .iaload, 1), (1097, .invokevirtual 151, 3)] = true := by decide +kernel
theorem lc17_t : dcB (mC t_law) (tailPg 1100 570) = true := by decide +kernel
theorem lc17_a621 : dcB (mC t_law) (argPg 1066 1) = true := by decide +kernel
theorem lc17_a635 : dcB (mC t_law) (argPg 1085 1) = true := by decide +kernel
theorem lc17_a626 : dcB (mC t_law) (argPg 1072 2) = true := by decide +kernel
theorem lc17_a640 : dcB (mC t_law) (argPg 1091 2) = true := by decide +kernel
theorem lc18_d : dcB (mC t_law) [(1133, .aload_n 1, 1), (1134, .aload_n 0, 1), (1135, .iload 4, 2), (1137, .iconst 1, 1), (1138, .iadd, 1), (1139, .iaload, 1), (1140, .aload_n 0, 1), (1141, .iload 4, 2), (1143, .iconst 2, 1), (1144, .iadd, 1), (1145, .iaload, 1), (1146, .aload_n 0, 1), (1147, .iload 4, 2), (1149, .iconst 3, 1), (1150, .iadd, 1), (1151, .iaload, 1), (1152, .aload_n 3, 1), (1153, .invokestatic 152, 3), (1156, .istore 5, 2), (1158, .aload_n 2, 1), (1159, .aload_n 0, 1), (1160, .iload 4, 2), (1162, .iconst 1, 1), (1163, .iadd, 1), (1164, .iaload, 1), (1165, .aload_n 0, 1), (1166, .iload 4, 2), (1168, .iconst 2, 1), (1169, .iadd, 1), (1170, .iaload, 1), (1171, .aload_n 0, 1), (1172, .iload 4, 2), (1174, .iconst 3, 1), (1175, .iadd, 1), (1176, .iaload, 1), (1177, .invokevirtual 154, 3)] = true := by decide +kernel
theorem lc18_t : dcB (mC t_law) (tailPg 1180 490) = true := by decide +kernel
theorem lc18_a666 : dcB (mC t_law) (argPg 1134 1) = true := by decide +kernel
theorem lc18_a685 : dcB (mC t_law) (argPg 1159 1) = true := by decide +kernel
theorem lc18_a671 : dcB (mC t_law) (argPg 1140 2) = true := by decide +kernel
theorem lc18_a690 : dcB (mC t_law) (argPg 1165 2) = true := by decide +kernel
theorem lc18_a676 : dcB (mC t_law) (argPg 1146 3) = true := by decide +kernel
theorem lc18_a695 : dcB (mC t_law) (argPg 1171 3) = true := by decide +kernel
theorem lc19_d : dcB (mC t_law) [(1213, .aload_n 1, 1), (1214, .aload_n 0, 1), (1215, .iload 4, 2), (1217, .iconst 1, 1), (1218, .iadd, 1), (1219, .iaload, 1), (1220, .aload_n 0, 1), (1221, .iload 4, 2), (1223, .iconst 2, 1), (1224, .iadd, 1), (1225, .iaload, 1), (1226, .aload_n 3, 1), (1227, .invokestatic 155, 3), (1230, .istore 5, 2), (1232, .aload_n 2, 1), (1233, .aload_n 0, 1), (1234, .iload 4, 2), (1236, .iconst 1, 1), (1237, .iadd, 1), (1238, .iaload, 1), (1239, .aload_n 0, 1), (1240, .iload 4, 2), (1242, .iconst 2, 1), (1243, .iadd, 1), (1244, .iaload, 1), (1245, .invokevirtual 157, 3)] = true := by decide +kernel
theorem lc19_t : dcB (mC t_law) (tailPg 1248 422) = true := by decide +kernel
theorem lc19_a721 : dcB (mC t_law) (argPg 1214 1) = true := by decide +kernel
theorem lc19_a735 : dcB (mC t_law) (argPg 1233 1) = true := by decide +kernel
theorem lc19_a726 : dcB (mC t_law) (argPg 1220 2) = true := by decide +kernel
theorem lc19_a740 : dcB (mC t_law) (argPg 1239 2) = true := by decide +kernel
theorem lc20_d : dcB (mC t_law) [(1281, .aload_n 1, 1), (1282, .aload_n 0, 1), (1283, .iload 4, 2), (1285, .iconst 1, 1), (1286, .iadd, 1), (1287, .iaload, 1), (1288, .aload_n 3, 1), (1289, .invokestatic 158, 3), (1292, .istore 5, 2), (1294, .aload_n 2, 1), (1295, .aload_n 0, 1), (1296, .iload 4, 2), (1298, .iconst 1, 1), (1299, .iadd, 1), (1300, .iaload, 1), (1301, .invokevirtual 160, 3)] = true := by decide +kernel
theorem lc20_t : dcB (mC t_law) (tailPg 1304 366) = true := by decide +kernel
theorem lc20_a766 : dcB (mC t_law) (argPg 1282 1) = true := by decide +kernel
theorem lc20_a775 : dcB (mC t_law) (argPg 1295 1) = true := by decide +kernel
theorem lc21_d : dcB (mC t_law) [(1337, .aload_n 1, 1), (1338, .aload_n 0, 1), (1339, .iload 4, 2), (1341, .iconst 1, 1), (1342, .iadd, 1), (1343, .iaload, 1), (1344, .aload_n 0, 1), (1345, .iload 4, 2), (1347, .iconst 2, 1), (1348, .iadd, 1), (1349, .iaload, 1), (1350, .aload_n 0, 1), (1351, .iload 4, 2), (1353, .iconst 3, 1), (1354, .iadd, 1), (1355, .iaload, 1), (1356, .aload_n 0, 1), (1357, .iload 4, 2), (1359, .iconst 4, 1), (1360, .iadd, 1), (1361, .iaload, 1), (1362, .aload_n 3, 1), (1363, .invokestatic 161, 3), (1366, .istore 5, 2), (1368, .aload_n 2, 1), (1369, .aload_n 0, 1), (1370, .iload 4, 2), (1372, .iconst 1, 1), (1373, .iadd, 1), (1374, .iaload, 1), (1375, .aload_n 0, 1), (1376, .iload 4, 2), (1378, .iconst 2, 1), (1379, .iadd, 1), (1380, .iaload, 1), (1381, .aload_n 0, 1), (1382, .iload 4, 2), (1384, .iconst 3, 1), (1385, .iadd, 1), (1386, .iaload, 1), (1387, .aload_n 0, 1), (1388, .iload 4, 2), (1390, .iconst 4, 1), (1391, .iadd, 1), (1392, .iaload, 1), (1393, .invokevirtual 163, 3)] = true := by decide +kernel
theorem lc21_t : dcB (mC t_law) (tailPg 1396 274) = true := by decide +kernel
theorem lc21_a801 : dcB (mC t_law) (argPg 1338 1) = true := by decide +kernel
theorem lc21_a825 : dcB (mC t_law) (argPg 1369 1) = true := by decide +kernel
theorem lc21_a806 : dcB (mC t_law) (argPg 1344 2) = true := by decide +kernel
theorem lc21_a830 : dcB (mC t_law) (argPg 1375 2) = true := by decide +kernel
theorem lc21_a811 : dcB (mC t_law) (argPg 1350 3) = true := by decide +kernel
theorem lc21_a835 : dcB (mC t_law) (argPg 1381 3) = true := by decide +kernel
theorem lc21_a816 : dcB (mC t_law) (argPg 1356 4) = true := by decide +kernel
theorem lc21_a840 : dcB (mC t_law) (argPg 1387 4) = true := by decide +kernel
theorem lc22_d : dcB (mC t_law) [(1429, .aload_n 1, 1), (1430, .aload_n 0, 1), (1431, .iload 4, 2), (1433, .iconst 1, 1), (1434, .iadd, 1), (1435, .iaload, 1), (1436, .aload_n 0, 1), (1437, .iload 4, 2), (1439, .iconst 2, 1), (1440, .iadd, 1), (1441, .iaload, 1), (1442, .aload_n 3, 1), (1443, .invokestatic 164, 3), (1446, .istore 5, 2), (1448, .aload_n 2, 1), (1449, .aload_n 0, 1), (1450, .iload 4, 2), (1452, .iconst 1, 1), (1453, .iadd, 1), (1454, .iaload, 1), (1455, .aload_n 0, 1), (1456, .iload 4, 2), (1458, .iconst 2, 1), (1459, .iadd, 1), (1460, .iaload, 1), (1461, .invokevirtual 166, 3)] = true := by decide +kernel
theorem lc22_t : dcB (mC t_law) (tailPg 1464 206) = true := by decide +kernel
theorem lc22_a866 : dcB (mC t_law) (argPg 1430 1) = true := by decide +kernel
theorem lc22_a880 : dcB (mC t_law) (argPg 1449 1) = true := by decide +kernel
theorem lc22_a871 : dcB (mC t_law) (argPg 1436 2) = true := by decide +kernel
theorem lc22_a885 : dcB (mC t_law) (argPg 1455 2) = true := by decide +kernel
theorem lc23_d : dcB (mC t_law) [(1497, .aload_n 1, 1), (1498, .aload_n 0, 1), (1499, .iload 4, 2), (1501, .iconst 1, 1), (1502, .iadd, 1), (1503, .iaload, 1), (1504, .aload_n 0, 1), (1505, .iload 4, 2), (1507, .iconst 2, 1), (1508, .iadd, 1), (1509, .iaload, 1), (1510, .aload_n 0, 1), (1511, .iload 4, 2), (1513, .iconst 3, 1), (1514, .iadd, 1), (1515, .iaload, 1), (1516, .aload_n 3, 1), (1517, .invokestatic 167, 3), (1520, .istore 5, 2), (1522, .aload_n 2, 1), (1523, .aload_n 0, 1), (1524, .iload 4, 2), (1526, .iconst 1, 1), (1527, .iadd, 1), (1528, .iaload, 1), (1529, .aload_n 0, 1), (1530, .iload 4, 2), (1532, .iconst 2, 1), (1533, .iadd, 1), (1534, .iaload, 1), (1535, .aload_n 0, 1), (1536, .iload 4, 2), (1538, .iconst 3, 1), (1539, .iadd, 1), (1540, .iaload, 1), (1541, .invokevirtual 169, 3)] = true := by decide +kernel
theorem lc23_t : dcB (mC t_law) (tailPg 1544 126) = true := by decide +kernel
theorem lc23_a911 : dcB (mC t_law) (argPg 1498 1) = true := by decide +kernel
theorem lc23_a930 : dcB (mC t_law) (argPg 1523 1) = true := by decide +kernel
theorem lc23_a916 : dcB (mC t_law) (argPg 1504 2) = true := by decide +kernel
theorem lc23_a935 : dcB (mC t_law) (argPg 1529 2) = true := by decide +kernel
theorem lc23_a921 : dcB (mC t_law) (argPg 1510 3) = true := by decide +kernel
theorem lc23_a940 : dcB (mC t_law) (argPg 1535 3) = true := by decide +kernel
theorem lc24_d : dcB (mC t_law) [(1577, .aload_n 1, 1), (1578, .aload_n 0, 1), (1579, .iload 4, 2), (1581, .iconst 1, 1), (1582, .iadd, 1), (1583, .iaload, 1), (1584, .aload_n 0, 1), (1585, .iload 4, 2), (1587, .iconst 2, 1), (1588, .iadd, 1), (1589, .iaload, 1), (1590, .aload_n 3, 1), (1591, .invokestatic 170, 3), (1594, .istore 5, 2), (1596, .aload_n 2, 1), (1597, .aload_n 0, 1), (1598, .iload 4, 2), (1600, .iconst 1, 1), (1601, .iadd, 1), (1602, .iaload, 1), (1603, .aload_n 0, 1), (1604, .iload 4, 2), (1606, .iconst 2, 1), (1607, .iadd, 1), (1608, .iaload, 1), (1609, .invokevirtual 172, 3)] = true := by decide +kernel
theorem lc24_t : dcB (mC t_law) (tailPg 1612 58) = true := by decide +kernel
theorem lc24_a966 : dcB (mC t_law) (argPg 1578 1) = true := by decide +kernel
theorem lc24_a980 : dcB (mC t_law) (argPg 1597 1) = true := by decide +kernel
theorem lc24_a971 : dcB (mC t_law) (argPg 1584 2) = true := by decide +kernel
theorem lc24_a985 : dcB (mC t_law) (argPg 1603 2) = true := by decide +kernel
theorem kl_87 : Cond.methodLink RL 87 yX8_begin ∈ lw_big := bm 1073 _ (by decide +kernel) (by decide +kernel)
theorem kl_93 : Cond.methodLink RL 93 yX8_setHeight ∈ lw_big := bm 1077 _ (by decide +kernel) (by decide +kernel)
theorem kl_100 : Cond.methodLink RL 100 yX8_hill ∈ lw_big := bm 1087 _ (by decide +kernel) (by decide +kernel)
theorem kl_104 : Cond.methodLink RL 104 yX8_append ∈ lw_big := bm 1094 _ (by decide +kernel) (by decide +kernel)
theorem kl_108 : Cond.methodLink RL 108 yX8_clearBuffer ∈ lw_big := bm 1098 _ (by decide +kernel) (by decide +kernel)
theorem kl_112 : Cond.methodLink RL 112 yX8_firstError ∈ lw_big := bm 1102 _ (by decide +kernel) (by decide +kernel)
theorem kl_115 : Cond.methodLink RL 115 yX8_load ∈ lw_big := bm 1122 _ (by decide +kernel) (by decide +kernel)
theorem kl_118 : Cond.methodLink RL 118 yX8_addStation ∈ lw_big := bm 1130 _ (by decide +kernel) (by decide +kernel)
theorem kl_121 : Cond.methodLink RL 121 yX8_setMast ∈ lw_big := bm 1138 _ (by decide +kernel) (by decide +kernel)
theorem kl_124 : Cond.methodLink RL 124 yX8_lend ∈ lw_big := bm 1146 _ (by decide +kernel) (by decide +kernel)
theorem kl_128 : Cond.methodLink RL 128 yX8_addCloud ∈ lw_big := bm 1154 _ (by decide +kernel) (by decide +kernel)
theorem kl_132 : Cond.methodLink RL 132 yX8_clearClouds ∈ lw_big := bm 1158 _ (by decide +kernel) (by decide +kernel)
theorem kl_135 : Cond.methodLink RL 135 yX8_send ∈ lw_big := bm 1162 _ (by decide +kernel) (by decide +kernel)
theorem kl_138 : Cond.methodLink RL 138 yX8_cancel ∈ lw_big := bm 1241 _ (by decide +kernel) (by decide +kernel)
theorem kl_142 : Cond.methodLink RL 142 yX8_reorder ∈ lw_big := bm 1253 _ (by decide +kernel) (by decide +kernel)
theorem kl_145 : Cond.methodLink RL 145 yX8_count ∈ lw_big := bm 1257 _ (by decide +kernel) (by decide +kernel)
theorem kl_148 : Cond.methodLink RL 148 yX8_station ∈ lw_big := bm 1289 _ (by decide +kernel) (by decide +kernel)
theorem kl_151 : Cond.methodLink RL 151 yX8_blocker ∈ lw_big := bm 1301 _ (by decide +kernel) (by decide +kernel)
theorem kl_154 : Cond.methodLink RL 154 yX8_link ∈ lw_big := bm 1309 _ (by decide +kernel) (by decide +kernel)
theorem kl_157 : Cond.methodLink RL 157 yX8_mastFor ∈ lw_big := bm 1313 _ (by decide +kernel) (by decide +kernel)
theorem kl_160 : Cond.methodLink RL 160 yX8_bestCell ∈ lw_big := bm 1321 _ (by decide +kernel) (by decide +kernel)
theorem kl_163 : Cond.methodLink RL 163 yX8_arrival ∈ lw_big := bm 1329 _ (by decide +kernel) (by decide +kernel)
theorem kl_166 : Cond.methodLink RL 166 yX8_message ∈ lw_big := bm 1333 _ (by decide +kernel) (by decide +kernel)
theorem kl_169 : Cond.methodLink RL 169 yX8_hop ∈ lw_big := bm 1337 _ (by decide +kernel) (by decide +kernel)
theorem kl_172 : Cond.methodLink RL 172 yX8_busy ∈ lw_big := bm 1341 _ (by decide +kernel) (by decide +kernel)
theorem kl_83 : Cond.methodLink RL 83 yX7_begin ∈ lw_big := bm 266 _ (by decide +kernel) (by decide +kernel)
theorem kl_105 : Cond.methodLink RL 105 yX7_clearBuffer ∈ lw_big := bm 291 _ (by decide +kernel) (by decide +kernel)
theorem kl_109 : Cond.methodLink RL 109 yX7_firstError ∈ lw_big := bm 303 _ (by decide +kernel) (by decide +kernel)
theorem kl_129 : Cond.methodLink RL 129 yX7_clearClouds ∈ lw_big := bm 339 _ (by decide +kernel) (by decide +kernel)
theorem kl_139 : Cond.methodLink RL 139 yX7_reorder ∈ lw_big := bm 347 _ (by decide +kernel) (by decide +kernel)
theorem kl_88 : Cond.methodLink RL 88 yL_setHeight ∈ lw_big := bm 626 _ (by decide +kernel) (by decide +kernel)
theorem kl_97 : Cond.methodLink RL 97 yL_hill ∈ lw_big := bm 730 _ (by decide +kernel) (by decide +kernel)
theorem kl_101 : Cond.methodLink RL 101 yL_append ∈ lw_big := bm 743 _ (by decide +kernel) (by decide +kernel)
theorem kl_113 : Cond.methodLink RL 113 yL_load ∈ lw_big := bm 771 _ (by decide +kernel) (by decide +kernel)
theorem kl_116 : Cond.methodLink RL 116 yL_addStation ∈ lw_big := bm 795 _ (by decide +kernel) (by decide +kernel)
theorem kl_119 : Cond.methodLink RL 119 yL_setMast ∈ lw_big := bm 812 _ (by decide +kernel) (by decide +kernel)
theorem kl_122 : Cond.methodLink RL 122 yL_lend ∈ lw_big := bm 829 _ (by decide +kernel) (by decide +kernel)
theorem kl_125 : Cond.methodLink RL 125 yL_addCloud ∈ lw_big := bm 841 _ (by decide +kernel) (by decide +kernel)
theorem kl_133 : Cond.methodLink RL 133 yL_send ∈ lw_big := bm 855 _ (by decide +kernel) (by decide +kernel)
theorem kl_136 : Cond.methodLink RL 136 yL_cancel ∈ lw_big := bm 869 _ (by decide +kernel) (by decide +kernel)
theorem kl_143 : Cond.methodLink RL 143 yL_count ∈ lw_big := bm 889 _ (by decide +kernel) (by decide +kernel)
theorem kl_146 : Cond.methodLink RL 146 yL_station ∈ lw_big := bm 896 _ (by decide +kernel) (by decide +kernel)
theorem kl_149 : Cond.methodLink RL 149 yL_blocker ∈ lw_big := bm 903 _ (by decide +kernel) (by decide +kernel)
theorem kl_152 : Cond.methodLink RL 152 yL_link ∈ lw_big := bm 910 _ (by decide +kernel) (by decide +kernel)
theorem kl_155 : Cond.methodLink RL 155 yL_mastFor ∈ lw_big := bm 921 _ (by decide +kernel) (by decide +kernel)
theorem kl_158 : Cond.methodLink RL 158 yL_bestCell ∈ lw_big := bm 932 _ (by decide +kernel) (by decide +kernel)
theorem kl_161 : Cond.methodLink RL 161 yL_arrival ∈ lw_big := bm 948 _ (by decide +kernel) (by decide +kernel)
theorem kl_164 : Cond.methodLink RL 164 yL_message ∈ lw_big := bm 957 _ (by decide +kernel) (by decide +kernel)
theorem kl_167 : Cond.methodLink RL 167 yL_hop ∈ lw_big := bm 964 _ (by decide +kernel) (by decide +kernel)
theorem kl_170 : Cond.methodLink RL 170 yL_busy ∈ lw_big := bm 972 _ (by decide +kernel) (by decide +kernel)
