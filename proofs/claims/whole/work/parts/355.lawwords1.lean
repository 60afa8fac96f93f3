set_option maxRecDepth 100000 in
theorem wsL_law_r1_in : ∀ w ∈ wsL_law_r1, w ∈ lw_tbl := fun w h => by
  have e : wsL_law_r1 = ([75, 76, 60, 886, 887, 72, 1327, 77, 78, 79, 80, 81, 82, 83, 84, 61, 332, 113, 114, 63, 333, 148, 149, 65] : List Nat).filterMap (fun i => lw_tbl[i]?) := rfl
  rw [e] at h
  obtain ⟨i, -, hi⟩ := List.mem_filterMap.mp h
  exact List.mem_of_getElem? hi
set_option maxRecDepth 100000 in
theorem wsL_law_r2_in : ∀ w ∈ wsL_law_r2, w ∈ lw_tbl := fun w h => by
  have e : wsL_law_r2 = ([334, 173, 174, 66, 335, 191, 192, 67, 336, 209, 210, 68, 337, 236, 237, 69, 338, 296, 297, 71, 339, 86, 87, 88] : List Nat).filterMap (fun i => lw_tbl[i]?) := rfl
  rw [e] at h
  obtain ⟨i, -, hi⟩ := List.mem_filterMap.mp h
  exact List.mem_of_getElem? hi
set_option maxRecDepth 100000 in
theorem wsL_law_r3_in : ∀ w ∈ wsL_law_r3, w ∈ lw_tbl := fun w h => by
  have e : wsL_law_r3 = ([89, 90, 62, 100, 101, 102, 103, 91, 92, 93, 94, 99, 95, 115, 116, 117, 118, 119, 120, 64, 135, 136, 137, 138] : List Nat).filterMap (fun i => lw_tbl[i]?) := rfl
  rw [e] at h
  obtain ⟨i, -, hi⟩ := List.mem_filterMap.mp h
  exact List.mem_of_getElem? hi
set_option maxRecDepth 100000 in
theorem wsL_law_r4_in : ∀ w ∈ wsL_law_r4, w ∈ lw_tbl := fun w h => by
  have e : wsL_law_r4 = ([122, 123, 124, 125, 127, 128, 126, 151, 152, 153, 154, 158, 160, 162, 176, 177, 178, 179, 181, 182, 183, 180, 194, 195] : List Nat).filterMap (fun i => lw_tbl[i]?) := rfl
  rw [e] at h
  obtain ⟨i, -, hi⟩ := List.mem_filterMap.mp h
  exact List.mem_of_getElem? hi
set_option maxRecDepth 100000 in
theorem wsL_law_r5_in : ∀ w ∈ wsL_law_r5, w ∈ lw_tbl := fun w h => by
  have e : wsL_law_r5 = ([196, 197, 199, 200, 201, 198, 212, 213, 214, 215, 217, 218, 219, 220, 221, 222, 216, 238, 239, 240, 241, 242, 279, 244] : List Nat).filterMap (fun i => lw_tbl[i]?) := rfl
  rw [e] at h
  obtain ⟨i, -, hi⟩ := List.mem_filterMap.mp h
  exact List.mem_of_getElem? hi
set_option maxRecDepth 100000 in
theorem wsL_law_r6_in : ∀ w ∈ wsL_law_r6, w ∈ lw_tbl := fun w h => by
  have e : wsL_law_r6 = ([70, 280, 277, 281, 282, 283, 246, 247, 248, 249, 251, 254, 257, 260, 263, 278, 298, 299, 300, 301, 302, 308, 309, 310] : List Nat).filterMap (fun i => lw_tbl[i]?) := rfl
  rw [e] at h
  obtain ⟨i, -, hi⟩ := List.mem_filterMap.mp h
  exact List.mem_of_getElem? hi
set_option maxRecDepth 100000 in
theorem wsL_law_r7_in : ∀ w ∈ wsL_law_r7, w ∈ lw_tbl := fun w h => by
  have e : wsL_law_r7 = ([311, 312, 313, 315, 303, 304, 305, 306, 307, 888, 889, 890, 891, 892, 893, 894, 895, 896, 897, 898, 899, 902, 906, 910] : List Nat).filterMap (fun i => lw_tbl[i]?) := rfl
  rw [e] at h
  obtain ⟨i, -, hi⟩ := List.mem_filterMap.mp h
  exact List.mem_of_getElem? hi
set_option maxRecDepth 100000 in
theorem wsL_law_r8_in : ∀ w ∈ wsL_law_r8, w ∈ lw_tbl := fun w h => by
  have e : wsL_law_r8 = ([911, 912, 913, 914, 915, 916, 917, 918, 919, 920, 921, 922, 923, 924, 925, 926, 927, 928, 929, 930, 931, 932, 934, 935] : List Nat).filterMap (fun i => lw_tbl[i]?) := rfl
  rw [e] at h
  obtain ⟨i, -, hi⟩ := List.mem_filterMap.mp h
  exact List.mem_of_getElem? hi
set_option maxRecDepth 100000 in
theorem wsL_law_r9_in : ∀ w ∈ wsL_law_r9, w ∈ lw_tbl := fun w h => by
  have e : wsL_law_r9 = ([936, 937, 938, 939, 943, 944, 941, 942, 357, 358, 359, 360, 367, 361, 362, 363, 364, 365, 366, 368, 369, 370, 371, 372] : List Nat).filterMap (fun i => lw_tbl[i]?) := rfl
  rw [e] at h
  obtain ⟨i, -, hi⟩ := List.mem_filterMap.mp h
  exact List.mem_of_getElem? hi
set_option maxRecDepth 100000 in
theorem wsL_law_r10_in : ∀ w ∈ wsL_law_r10, w ∈ lw_tbl := fun w h => by
  have e : wsL_law_r10 = ([374, 0, 375, 376, 377, 378, 379, 380, 381, 382, 383, 384, 385, 386, 387, 388, 389, 390, 391, 392, 393, 394, 395, 396] : List Nat).filterMap (fun i => lw_tbl[i]?) := rfl
  rw [e] at h
  obtain ⟨i, -, hi⟩ := List.mem_filterMap.mp h
  exact List.mem_of_getElem? hi
set_option maxRecDepth 100000 in
theorem wsL_law_r11_in : ∀ w ∈ wsL_law_r11, w ∈ lw_tbl := fun w h => by
  have e : wsL_law_r11 = ([1052, 1053, 1054, 1055, 1056, 1057, 1061, 933, 900, 1058, 1059, 1060, 397, 398, 399, 400, 401, 402, 403, 404, 405, 406, 407, 408] : List Nat).filterMap (fun i => lw_tbl[i]?) := rfl
  rw [e] at h
  obtain ⟨i, -, hi⟩ := List.mem_filterMap.mp h
  exact List.mem_of_getElem? hi
set_option maxRecDepth 100000 in
theorem wsL_law_r12_in : ∀ w ∈ wsL_law_r12, w ∈ lw_tbl := fun w h => by
  have e : wsL_law_r12 = ([409, 410, 1062, 1063, 1064, 1065, 1066, 907, 1067, 411, 412, 413, 414, 415, 416, 417, 418, 419, 420, 421, 422, 423, 424, 425] : List Nat).filterMap (fun i => lw_tbl[i]?) := rfl
  rw [e] at h
  obtain ⟨i, -, hi⟩ := List.mem_filterMap.mp h
  exact List.mem_of_getElem? hi
set_option maxRecDepth 100000 in
theorem wsL_law_r13_in : ∀ w ∈ wsL_law_r13, w ∈ lw_tbl := fun w h => by
  have e : wsL_law_r13 = ([426, 427, 428, 429, 430, 431, 432, 434, 1, 435, 436, 438, 2, 439, 440, 442, 3, 443, 444, 445, 446, 447, 448, 450] : List Nat).filterMap (fun i => lw_tbl[i]?) := rfl
  rw [e] at h
  obtain ⟨i, -, hi⟩ := List.mem_filterMap.mp h
  exact List.mem_of_getElem? hi
set_option maxRecDepth 100000 in
theorem wsL_law_r14_in : ∀ w ∈ wsL_law_r14, w ∈ lw_tbl := fun w h => by
  have e : wsL_law_r14 = ([4, 451, 452, 453, 454, 455, 457, 5, 458, 459, 460, 461, 462, 463, 464, 465, 466, 467, 1068, 1069, 1070, 1071, 901, 908] : List Nat).filterMap (fun i => lw_tbl[i]?) := rfl
  rw [e] at h
  obtain ⟨i, -, hi⟩ := List.mem_filterMap.mp h
  exact List.mem_of_getElem? hi
set_option maxRecDepth 100000 in
theorem wsL_law_r15_in : ∀ w ∈ wsL_law_r15, w ∈ lw_tbl := fun w h => by
  have e : wsL_law_r15 = ([1072, 1074, 29, 1075, 1076, 1078, 30, 1079, 909, 1080, 1082, 31, 1083, 1084, 1086, 32, 1087, 1088, 1090, 33, 1091, 1092, 1093, 1094] : List Nat).filterMap (fun i => lw_tbl[i]?) := rfl
  rw [e] at h
  obtain ⟨i, -, hi⟩ := List.mem_filterMap.mp h
  exact List.mem_of_getElem? hi
set_option maxRecDepth 100000 in
theorem wsL_law_r16_in : ∀ w ∈ wsL_law_r16, w ∈ lw_tbl := fun w h => by
  have e : wsL_law_r16 = ([468, 469, 470, 471, 472, 473, 474, 475, 476, 477, 478, 479, 480, 481, 482, 483, 484, 490, 491, 73, 492, 485, 486, 487] : List Nat).filterMap (fun i => lw_tbl[i]?) := rfl
  rw [e] at h
  obtain ⟨i, -, hi⟩ := List.mem_filterMap.mp h
  exact List.mem_of_getElem? hi
set_option maxRecDepth 100000 in
theorem wsL_law_r17_in : ∀ w ∈ wsL_law_r17, w ∈ lw_tbl := fun w h => by
  have e : wsL_law_r17 = ([488, 489, 493, 494, 495, 496, 497, 498, 499, 500, 501, 502, 503, 1095, 1096, 1097, 1098, 1103, 1099, 1101, 34, 1102, 1104, 1106] : List Nat).filterMap (fun i => lw_tbl[i]?) := rfl
  rw [e] at h
  obtain ⟨i, -, hi⟩ := List.mem_filterMap.mp h
  exact List.mem_of_getElem? hi
set_option maxRecDepth 100000 in
theorem wsL_law_r18_in : ∀ w ∈ wsL_law_r18, w ∈ lw_tbl := fun w h => by
  have e : wsL_law_r18 = ([35, 1107, 1108, 1110, 36, 1111, 1112, 1113, 1114, 504, 505, 506, 507, 508, 1115, 1116, 1117, 1118, 509, 510, 511, 512, 1119, 1120] : List Nat).filterMap (fun i => lw_tbl[i]?) := rfl
  rw [e] at h
  obtain ⟨i, -, hi⟩ := List.mem_filterMap.mp h
  exact List.mem_of_getElem? hi
set_option maxRecDepth 100000 in
theorem wsL_law_r19_in : ∀ w ∈ wsL_law_r19, w ∈ lw_tbl := fun w h => by
  have e : wsL_law_r19 = ([1121, 1122, 1123, 513, 514, 515, 516, 1124, 1125, 1126, 1127, 903, 904, 905, 517, 518, 519, 520, 521, 523, 6, 524, 525, 526] : List Nat).filterMap (fun i => lw_tbl[i]?) := rfl
  rw [e] at h
  obtain ⟨i, -, hi⟩ := List.mem_filterMap.mp h
  exact List.mem_of_getElem? hi
set_option maxRecDepth 100000 in
theorem wsL_law_r20_in : ∀ w ∈ wsL_law_r20, w ∈ lw_tbl := fun w h => by
  have e : wsL_law_r20 = ([527, 528, 529, 530, 531, 532, 534, 533, 535, 536, 537, 539, 7, 540, 541, 542, 544, 8, 545, 553, 554, 555, 546, 547] : List Nat).filterMap (fun i => lw_tbl[i]?) := rfl
  rw [e] at h
  obtain ⟨i, -, hi⟩ := List.mem_filterMap.mp h
  exact List.mem_of_getElem? hi
set_option maxRecDepth 100000 in
theorem wsL_law_r21_in : ∀ w ∈ wsL_law_r21, w ∈ lw_tbl := fun w h => by
  have e : wsL_law_r21 = ([74, 548, 549, 550, 551, 552, 556, 558, 9, 559, 560, 562, 10, 563, 564, 565, 566, 567, 568, 569, 570, 571, 572, 573] : List Nat).filterMap (fun i => lw_tbl[i]?) := rfl
  rw [e] at h
  obtain ⟨i, -, hi⟩ := List.mem_filterMap.mp h
  exact List.mem_of_getElem? hi
set_option maxRecDepth 100000 in
theorem wsL_law_r22_in : ∀ w ∈ wsL_law_r22, w ∈ lw_tbl := fun w h => by
  have e : wsL_law_r22 = ([574, 1128, 1129, 1130, 1131, 1132, 1133, 1135, 37, 1136, 1137, 1139, 38, 1140, 1144, 1141, 1142, 1143, 1145, 1146, 1147, 575, 576, 577] : List Nat).filterMap (fun i => lw_tbl[i]?) := rfl
  rw [e] at h
  obtain ⟨i, -, hi⟩ := List.mem_filterMap.mp h
  exact List.mem_of_getElem? hi
set_option maxRecDepth 100000 in
theorem wsL_law_r23_in : ∀ w ∈ wsL_law_r23, w ∈ lw_tbl := fun w h => by
  have e : wsL_law_r23 = ([578, 579, 580, 581, 582, 583, 584, 585, 586, 587, 1148, 1149, 1150, 1151, 1152, 1154, 39, 1155, 588, 589, 590, 591, 592, 593] : List Nat).filterMap (fun i => lw_tbl[i]?) := rfl
  rw [e] at h
  obtain ⟨i, -, hi⟩ := List.mem_filterMap.mp h
  exact List.mem_of_getElem? hi
set_option maxRecDepth 100000 in
theorem wsL_law_r24_in : ∀ w ∈ wsL_law_r24, w ∈ lw_tbl := fun w h => by
  have e : wsL_law_r24 = ([594, 595, 596, 1156, 1157, 1158, 1159, 1160, 597, 598, 599, 600, 601, 602, 603, 604, 605, 606, 607, 609, 11, 610, 611, 613] : List Nat).filterMap (fun i => lw_tbl[i]?) := rfl
  rw [e] at h
  obtain ⟨i, -, hi⟩ := List.mem_filterMap.mp h
  exact List.mem_of_getElem? hi
set_option maxRecDepth 100000 in
theorem wsL_law_r25_in : ∀ w ∈ wsL_law_r25, w ∈ lw_tbl := fun w h => by
  have e : wsL_law_r25 = ([12, 614, 615, 616, 617, 1161, 1162, 1163, 1164, 1165, 1167, 40, 1168, 1169, 1171, 41, 1172, 1173, 1175, 42, 1176, 1177, 1179, 43] : List Nat).filterMap (fun i => lw_tbl[i]?) := rfl
  rw [e] at h
  obtain ⟨i, -, hi⟩ := List.mem_filterMap.mp h
  exact List.mem_of_getElem? hi
set_option maxRecDepth 100000 in
theorem wsL_law_r26_in : ∀ w ∈ wsL_law_r26, w ∈ lw_tbl := fun w h => by
  have e : wsL_law_r26 = ([1180, 1181, 1183, 44, 1184, 1185, 1186, 1187, 618, 619, 620, 621, 622, 623, 624, 625, 626, 627, 628, 629, 630, 1188, 1189, 1190] : List Nat).filterMap (fun i => lw_tbl[i]?) := rfl
  rw [e] at h
  obtain ⟨i, -, hi⟩ := List.mem_filterMap.mp h
  exact List.mem_of_getElem? hi
set_option maxRecDepth 100000 in
theorem wsL_law_r27_in : ∀ w ∈ wsL_law_r27, w ∈ lw_tbl := fun w h => by
  have e : wsL_law_r27 = ([1191, 1192, 1194, 45, 1195, 631, 632, 633, 634, 635, 636, 637, 638, 639, 640, 641, 642, 643, 644, 645, 646, 647, 648, 649] : List Nat).filterMap (fun i => lw_tbl[i]?) := rfl
  rw [e] at h
  obtain ⟨i, -, hi⟩ := List.mem_filterMap.mp h
  exact List.mem_of_getElem? hi
set_option maxRecDepth 100000 in
theorem wsL_law_r28_in : ∀ w ∈ wsL_law_r28, w ∈ lw_tbl := fun w h => by
  have e : wsL_law_r28 = ([1196, 1197, 1198, 1199, 1200, 1202, 46, 1203, 650, 651, 652, 653, 654, 655, 656, 657, 658, 660, 659, 661, 663, 13, 664, 665] : List Nat).filterMap (fun i => lw_tbl[i]?) := rfl
  rw [e] at h
  obtain ⟨i, -, hi⟩ := List.mem_filterMap.mp h
  exact List.mem_of_getElem? hi
set_option maxRecDepth 100000 in
theorem wsL_law_r29_in : ∀ w ∈ wsL_law_r29, w ∈ lw_tbl := fun w h => by
  have e : wsL_law_r29 = ([666, 667, 669, 14, 670, 671, 673, 15, 674, 675, 676, 677, 678, 679, 681, 16, 682, 683, 685, 17, 686, 687, 1204, 1205] : List Nat).filterMap (fun i => lw_tbl[i]?) := rfl
  rw [e] at h
  obtain ⟨i, -, hi⟩ := List.mem_filterMap.mp h
  exact List.mem_of_getElem? hi
set_option maxRecDepth 100000 in
theorem wsL_law_r30_in : ∀ w ∈ wsL_law_r30, w ∈ lw_tbl := fun w h => by
  have e : wsL_law_r30 = ([1206, 1207, 1208, 1209, 1210, 1211, 1213, 47, 1214, 688, 689, 690, 691, 692, 693, 694, 695, 696, 697, 698, 699, 700, 701, 702] : List Nat).filterMap (fun i => lw_tbl[i]?) := rfl
  rw [e] at h
  obtain ⟨i, -, hi⟩ := List.mem_filterMap.mp h
  exact List.mem_of_getElem? hi
set_option maxRecDepth 100000 in
theorem wsL_law_r31_in : ∀ w ∈ wsL_law_r31, w ∈ lw_tbl := fun w h => by
  have e : wsL_law_r31 = ([703, 704, 705, 706, 707, 1215, 1216, 1217, 1218, 1219, 1221, 48, 1222, 1223, 1225, 49, 1226, 708, 709, 710, 711, 712, 714, 18] : List Nat).filterMap (fun i => lw_tbl[i]?) := rfl
  rw [e] at h
  obtain ⟨i, -, hi⟩ := List.mem_filterMap.mp h
  exact List.mem_of_getElem? hi
set_option maxRecDepth 100000 in
theorem wsL_law_r32_in : ∀ w ∈ wsL_law_r32, w ∈ lw_tbl := fun w h => by
  have e : wsL_law_r32 = ([715, 716, 717, 718, 719, 720, 721, 722, 723, 724, 1227, 1228, 1229, 1230, 1231, 1233, 50, 1234, 1235, 1237, 51, 1238, 725, 726] : List Nat).filterMap (fun i => lw_tbl[i]?) := rfl
  rw [e] at h
  obtain ⟨i, -, hi⟩ := List.mem_filterMap.mp h
  exact List.mem_of_getElem? hi
set_option maxRecDepth 100000 in
theorem wsL_law_r33_in : ∀ w ∈ wsL_law_r33, w ∈ lw_tbl := fun w h => by
  have e : wsL_law_r33 = ([727, 728, 729, 730, 731, 732, 733, 1239, 1240, 1241, 1242, 734, 735, 736, 737, 738, 739, 740, 741, 742, 743, 744, 745, 746] : List Nat).filterMap (fun i => lw_tbl[i]?) := rfl
  rw [e] at h
  obtain ⟨i, -, hi⟩ := List.mem_filterMap.mp h
  exact List.mem_of_getElem? hi
set_option maxRecDepth 100000 in
theorem wsL_law_r34_in : ∀ w ∈ wsL_law_r34, w ∈ lw_tbl := fun w h => by
  have e : wsL_law_r34 = ([747, 748, 749, 750, 1243, 1244, 1245, 1246, 751, 752, 753, 754, 764, 755, 756, 757, 758, 759, 760, 761, 762, 763, 1247, 1248] : List Nat).filterMap (fun i => lw_tbl[i]?) := rfl
  rw [e] at h
  obtain ⟨i, -, hi⟩ := List.mem_filterMap.mp h
  exact List.mem_of_getElem? hi
set_option maxRecDepth 100000 in
theorem wsL_law_r35_in : ∀ w ∈ wsL_law_r35, w ∈ lw_tbl := fun w h => by
  have e : wsL_law_r35 = ([1249, 1250, 1259, 1251, 1253, 52, 1254, 1255, 1257, 53, 1258, 765, 766, 767, 768, 1260, 1261, 1262, 1263, 769, 770, 771, 772, 1264] : List Nat).filterMap (fun i => lw_tbl[i]?) := rfl
  rw [e] at h
  obtain ⟨i, -, hi⟩ := List.mem_filterMap.mp h
  exact List.mem_of_getElem? hi
set_option maxRecDepth 100000 in
theorem wsL_law_r36_in : ∀ w ∈ wsL_law_r36, w ∈ lw_tbl := fun w h => by
  have e : wsL_law_r36 = ([1265, 1266, 1267, 1268, 773, 774, 775, 776, 777, 778, 779, 780, 781, 782, 783, 1269, 1270, 1271, 1272, 1273, 784, 785, 786, 787] : List Nat).filterMap (fun i => lw_tbl[i]?) := rfl
  rw [e] at h
  obtain ⟨i, -, hi⟩ := List.mem_filterMap.mp h
  exact List.mem_of_getElem? hi
set_option maxRecDepth 100000 in
theorem wsL_law_r37_in : ∀ w ∈ wsL_law_r37, w ∈ lw_tbl := fun w h => by
  have e : wsL_law_r37 = ([788, 1274, 1275, 1276, 1277, 789, 790, 791, 792, 793, 795, 19, 796, 1278, 1279, 1280, 1281, 1282, 1284, 54, 1285, 797, 798, 799] : List Nat).filterMap (fun i => lw_tbl[i]?) := rfl
  rw [e] at h
  obtain ⟨i, -, hi⟩ := List.mem_filterMap.mp h
  exact List.mem_of_getElem? hi
set_option maxRecDepth 100000 in
theorem wsL_law_r38_in : ∀ w ∈ wsL_law_r38, w ∈ lw_tbl := fun w h => by
  have e : wsL_law_r38 = ([800, 801, 802, 803, 804, 1286, 1287, 1288, 1289, 805, 806, 807, 808, 809, 810, 811, 812, 813, 814, 816, 20, 817, 818, 819] : List Nat).filterMap (fun i => lw_tbl[i]?) := rfl
  rw [e] at h
  obtain ⟨i, -, hi⟩ := List.mem_filterMap.mp h
  exact List.mem_of_getElem? hi
set_option maxRecDepth 100000 in
theorem wsL_law_r39_in : ∀ w ∈ wsL_law_r39, w ∈ lw_tbl := fun w h => by
  have e : wsL_law_r39 = ([820, 821, 822, 823, 824, 825, 826, 1290, 1291, 1292, 1293, 1294, 940, 827, 828, 829, 830, 831, 832, 833, 834, 835, 837, 21] : List Nat).filterMap (fun i => lw_tbl[i]?) := rfl
  rw [e] at h
  obtain ⟨i, -, hi⟩ := List.mem_filterMap.mp h
  exact List.mem_of_getElem? hi
set_option maxRecDepth 100000 in
theorem wsL_law_r40_in : ∀ w ∈ wsL_law_r40, w ∈ lw_tbl := fun w h => by
  have e : wsL_law_r40 = ([838, 839, 840, 842, 22, 843, 844, 846, 23, 847, 848, 850, 24, 851, 852, 854, 25, 855, 856, 857, 859, 26, 860, 861] : List Nat).filterMap (fun i => lw_tbl[i]?) := rfl
  rw [e] at h
  obtain ⟨i, -, hi⟩ := List.mem_filterMap.mp h
  exact List.mem_of_getElem? hi
set_option maxRecDepth 100000 in
theorem wsL_law_r41_in : ∀ w ∈ wsL_law_r41, w ∈ lw_tbl := fun w h => by
  have e : wsL_law_r41 = ([863, 27, 864, 865, 866, 868, 28, 869, 1295, 1296, 1297, 1298, 1299, 1301, 55, 1302, 1303, 1305, 56, 1306, 1307, 1309, 57, 1310] : List Nat).filterMap (fun i => lw_tbl[i]?) := rfl
  rw [e] at h
  obtain ⟨i, -, hi⟩ := List.mem_filterMap.mp h
  exact List.mem_of_getElem? hi
set_option maxRecDepth 100000 in
theorem wsL_law_r42_in : ∀ w ∈ wsL_law_r42, w ∈ lw_tbl := fun w h => by
  have e : wsL_law_r42 = ([1311, 1313, 58, 1314, 870, 871, 872, 873, 1315, 1316, 1317, 1318, 874, 875, 876, 877, 878, 879, 880, 881, 1319, 1320, 1321, 1322] : List Nat).filterMap (fun i => lw_tbl[i]?) := rfl
  rw [e] at h
  obtain ⟨i, -, hi⟩ := List.mem_filterMap.mp h
  exact List.mem_of_getElem? hi
set_option maxRecDepth 100000 in
theorem wsL_law_r43_in : ∀ w ∈ wsL_law_r43, w ∈ lw_tbl := fun w h => by
  have e : wsL_law_r43 = ([882, 883, 884, 885, 1323, 1324, 1325, 1326] : List Nat).filterMap (fun i => lw_tbl[i]?) := rfl
  rw [e] at h
  obtain ⟨i, -, hi⟩ := List.mem_filterMap.mp h
  exact List.mem_of_getElem? hi
theorem inX0 : ∀ w ∈ wsX00, w ∈ lw_tbl := by decide +kernel
theorem inX1 : ∀ w ∈ wsX10, w ∈ lw_tbl := by decide +kernel
theorem inX2 : ∀ w ∈ wsX20, w ∈ lw_tbl := by decide +kernel
theorem inX3 : ∀ w ∈ wsX30, w ∈ lw_tbl := by decide +kernel
theorem inX4 : ∀ w ∈ wsX40, w ∈ lw_tbl := by decide +kernel
theorem inX5 : ∀ w ∈ wsX50, w ∈ lw_tbl := by decide +kernel
theorem inX6 : ∀ w ∈ wsX60, w ∈ lw_tbl := by decide +kernel
theorem inX7 : ∀ w ∈ wsX70, w ∈ lw_tbl := by decide +kernel
theorem inX8 : ∀ w ∈ wsX80, w ∈ lw_tbl := by decide +kernel
theorem inX9 : ∀ w ∈ wsX90, w ∈ lw_tbl := by decide +kernel
theorem inX10 : ∀ w ∈ wsX100, w ∈ lw_tbl := by decide +kernel
theorem inX11 : ∀ w ∈ wsX110, w ∈ lw_tbl := by decide +kernel
theorem inX12 : ∀ w ∈ wsX120, w ∈ lw_tbl := by decide +kernel
theorem wsL_law_in : ∀ w ∈ wsL_law, w ∈ lw_tbl := by
  intro w h
  unfold wsL_law at h
  simp only [List.mem_append] at h
  have h0 : w ∈ wsL_law_r1 ∨ w ∈ wsL_law_r2 ∨ w ∈ wsL_law_r3 ∨ w ∈ wsL_law_r4 ∨ w ∈ wsL_law_r5 ∨ w ∈ wsL_law_r6 ∨ w ∈ wsL_law_r7 ∨ w ∈ wsL_law_r8 ∨ w ∈ wsL_law_r9 ∨ w ∈ wsL_law_r10 ∨ w ∈ wsL_law_r11 ∨ w ∈ wsL_law_r12 ∨ w ∈ wsL_law_r13 ∨ w ∈ wsL_law_r14 ∨ w ∈ wsL_law_r15 ∨ w ∈ wsL_law_r16 ∨ w ∈ wsL_law_r17 ∨ w ∈ wsL_law_r18 ∨ w ∈ wsL_law_r19 ∨ w ∈ wsL_law_r20 ∨ w ∈ wsL_law_r21 ∨ w ∈ wsL_law_r22 ∨ w ∈ wsL_law_r23 ∨ w ∈ wsL_law_r24 ∨ w ∈ wsL_law_r25 ∨ w ∈ wsL_law_r26 ∨ w ∈ wsL_law_r27 ∨ w ∈ wsL_law_r28 ∨ w ∈ wsL_law_r29 ∨ w ∈ wsL_law_r30 ∨ w ∈ wsL_law_r31 ∨ w ∈ wsL_law_r32 ∨ w ∈ wsL_law_r33 ∨ w ∈ wsL_law_r34 ∨ w ∈ wsL_law_r35 ∨ w ∈ wsL_law_r36 ∨ w ∈ wsL_law_r37 ∨ w ∈ wsL_law_r38 ∨ w ∈ wsL_law_r39 ∨ w ∈ wsL_law_r40 ∨ w ∈ wsL_law_r41 ∨ w ∈ wsL_law_r42 ∨ w ∈ wsL_law_r43 ∨ w ∈ wsX110 ∨ w ∈ wsX120 ∨ w ∈ wsX100 ∨ w ∈ wsX20 ∨ w ∈ wsX00 ∨ w ∈ wsX60 ∨ w ∈ wsX40 ∨ w ∈ wsX30 ∨ w ∈ wsX90 ∨ w ∈ wsX10 ∨ w ∈ wsX70 ∨ w ∈ wsX50 ∨ w ∈ wsX80 := by simpa [or_assoc] using h
  rcases h0 with h | h | h | h | h | h | h | h | h | h | h | h | h | h | h | h | h | h | h | h | h | h | h | h | h | h | h | h | h | h | h | h | h | h | h | h | h | h | h | h | h | h | h | h | h | h | h | h | h | h | h | h | h | h | h | h
  · exact wsL_law_r1_in w h
  · exact wsL_law_r2_in w h
  · exact wsL_law_r3_in w h
  · exact wsL_law_r4_in w h
  · exact wsL_law_r5_in w h
  · exact wsL_law_r6_in w h
  · exact wsL_law_r7_in w h
  · exact wsL_law_r8_in w h
  · exact wsL_law_r9_in w h
  · exact wsL_law_r10_in w h
  · exact wsL_law_r11_in w h
  · exact wsL_law_r12_in w h
  · exact wsL_law_r13_in w h
  · exact wsL_law_r14_in w h
  · exact wsL_law_r15_in w h
  · exact wsL_law_r16_in w h
  · exact wsL_law_r17_in w h
  · exact wsL_law_r18_in w h
  · exact wsL_law_r19_in w h
  · exact wsL_law_r20_in w h
  · exact wsL_law_r21_in w h
  · exact wsL_law_r22_in w h
  · exact wsL_law_r23_in w h
  · exact wsL_law_r24_in w h
  · exact wsL_law_r25_in w h
  · exact wsL_law_r26_in w h
  · exact wsL_law_r27_in w h
  · exact wsL_law_r28_in w h
  · exact wsL_law_r29_in w h
  · exact wsL_law_r30_in w h
  · exact wsL_law_r31_in w h
  · exact wsL_law_r32_in w h
  · exact wsL_law_r33_in w h
  · exact wsL_law_r34_in w h
  · exact wsL_law_r35_in w h
  · exact wsL_law_r36_in w h
  · exact wsL_law_r37_in w h
  · exact wsL_law_r38_in w h
  · exact wsL_law_r39_in w h
  · exact wsL_law_r40_in w h
  · exact wsL_law_r41_in w h
  · exact wsL_law_r42_in w h
  · exact wsL_law_r43_in w h
  · exact inX11 w h
  · exact inX12 w h
  · exact inX10 w h
  · exact inX2 w h
  · exact inX0 w h
  · exact inX6 w h
  · exact inX4 w h
  · exact inX3 w h
  · exact inX9 w h
  · exact inX1 w h
  · exact inX7 w h
  · exact inX5 w h
  · exact inX8 w h
