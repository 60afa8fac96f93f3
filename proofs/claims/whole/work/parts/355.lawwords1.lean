set_option maxRecDepth 100000 in
theorem wsL_law_r1_in : ∀ w ∈ wsL_law_r1, w ∈ lw_tbl := fun w h => by
  have e : wsL_law_r1 = ([76, 77, 61, 891, 892, 73, 1332, 78, 79, 80, 81, 82, 83, 84, 85, 62, 333, 114, 115, 64, 334, 149, 150, 66] : List Nat).filterMap (fun i => lw_tbl[i]?) := rfl
  rw [e] at h
  obtain ⟨i, -, hi⟩ := List.mem_filterMap.mp h
  exact List.mem_of_getElem? hi
set_option maxRecDepth 100000 in
theorem wsL_law_r2_in : ∀ w ∈ wsL_law_r2, w ∈ lw_tbl := fun w h => by
  have e : wsL_law_r2 = ([335, 174, 175, 67, 336, 192, 193, 68, 337, 210, 211, 69, 338, 237, 238, 70, 339, 297, 298, 72, 340, 87, 88, 89] : List Nat).filterMap (fun i => lw_tbl[i]?) := rfl
  rw [e] at h
  obtain ⟨i, -, hi⟩ := List.mem_filterMap.mp h
  exact List.mem_of_getElem? hi
set_option maxRecDepth 100000 in
theorem wsL_law_r3_in : ∀ w ∈ wsL_law_r3, w ∈ lw_tbl := fun w h => by
  have e : wsL_law_r3 = ([90, 91, 63, 101, 102, 103, 104, 92, 93, 94, 95, 100, 96, 116, 117, 118, 119, 120, 121, 65, 136, 137, 138, 139] : List Nat).filterMap (fun i => lw_tbl[i]?) := rfl
  rw [e] at h
  obtain ⟨i, -, hi⟩ := List.mem_filterMap.mp h
  exact List.mem_of_getElem? hi
set_option maxRecDepth 100000 in
theorem wsL_law_r4_in : ∀ w ∈ wsL_law_r4, w ∈ lw_tbl := fun w h => by
  have e : wsL_law_r4 = ([123, 124, 125, 126, 128, 129, 127, 152, 153, 154, 155, 159, 161, 163, 177, 178, 179, 180, 182, 183, 184, 181, 195, 196] : List Nat).filterMap (fun i => lw_tbl[i]?) := rfl
  rw [e] at h
  obtain ⟨i, -, hi⟩ := List.mem_filterMap.mp h
  exact List.mem_of_getElem? hi
set_option maxRecDepth 100000 in
theorem wsL_law_r5_in : ∀ w ∈ wsL_law_r5, w ∈ lw_tbl := fun w h => by
  have e : wsL_law_r5 = ([197, 198, 200, 201, 202, 199, 213, 214, 215, 216, 218, 219, 220, 221, 222, 223, 217, 239, 240, 241, 242, 243, 280, 245] : List Nat).filterMap (fun i => lw_tbl[i]?) := rfl
  rw [e] at h
  obtain ⟨i, -, hi⟩ := List.mem_filterMap.mp h
  exact List.mem_of_getElem? hi
set_option maxRecDepth 100000 in
theorem wsL_law_r6_in : ∀ w ∈ wsL_law_r6, w ∈ lw_tbl := fun w h => by
  have e : wsL_law_r6 = ([71, 281, 278, 282, 283, 284, 247, 248, 249, 250, 252, 255, 258, 261, 264, 279, 299, 300, 301, 302, 303, 309, 310, 311] : List Nat).filterMap (fun i => lw_tbl[i]?) := rfl
  rw [e] at h
  obtain ⟨i, -, hi⟩ := List.mem_filterMap.mp h
  exact List.mem_of_getElem? hi
set_option maxRecDepth 100000 in
theorem wsL_law_r7_in : ∀ w ∈ wsL_law_r7, w ∈ lw_tbl := fun w h => by
  have e : wsL_law_r7 = ([312, 313, 314, 316, 304, 305, 306, 307, 308, 893, 894, 895, 896, 897, 898, 899, 900, 901, 902, 903, 904, 907, 911, 915] : List Nat).filterMap (fun i => lw_tbl[i]?) := rfl
  rw [e] at h
  obtain ⟨i, -, hi⟩ := List.mem_filterMap.mp h
  exact List.mem_of_getElem? hi
set_option maxRecDepth 100000 in
theorem wsL_law_r8_in : ∀ w ∈ wsL_law_r8, w ∈ lw_tbl := fun w h => by
  have e : wsL_law_r8 = ([916, 917, 918, 919, 920, 921, 922, 923, 924, 925, 926, 927, 928, 929, 930, 931, 932, 933, 934, 935, 936, 937, 939, 940] : List Nat).filterMap (fun i => lw_tbl[i]?) := rfl
  rw [e] at h
  obtain ⟨i, -, hi⟩ := List.mem_filterMap.mp h
  exact List.mem_of_getElem? hi
set_option maxRecDepth 100000 in
theorem wsL_law_r9_in : ∀ w ∈ wsL_law_r9, w ∈ lw_tbl := fun w h => by
  have e : wsL_law_r9 = ([941, 942, 943, 944, 948, 949, 946, 947, 358, 359, 360, 361, 368, 362, 363, 364, 365, 366, 367, 369, 370, 371, 372, 373] : List Nat).filterMap (fun i => lw_tbl[i]?) := rfl
  rw [e] at h
  obtain ⟨i, -, hi⟩ := List.mem_filterMap.mp h
  exact List.mem_of_getElem? hi
set_option maxRecDepth 100000 in
theorem wsL_law_r10_in : ∀ w ∈ wsL_law_r10, w ∈ lw_tbl := fun w h => by
  have e : wsL_law_r10 = ([375, 0, 376, 377, 378, 379, 380, 381, 382, 383, 384, 385, 386, 387, 388, 389, 390, 391, 392, 393, 394, 395, 396, 397] : List Nat).filterMap (fun i => lw_tbl[i]?) := rfl
  rw [e] at h
  obtain ⟨i, -, hi⟩ := List.mem_filterMap.mp h
  exact List.mem_of_getElem? hi
set_option maxRecDepth 100000 in
theorem wsL_law_r11_in : ∀ w ∈ wsL_law_r11, w ∈ lw_tbl := fun w h => by
  have e : wsL_law_r11 = ([1057, 1058, 1059, 1060, 1061, 1062, 1066, 938, 905, 1063, 1064, 1065, 398, 399, 400, 401, 402, 403, 404, 405, 406, 407, 408, 409] : List Nat).filterMap (fun i => lw_tbl[i]?) := rfl
  rw [e] at h
  obtain ⟨i, -, hi⟩ := List.mem_filterMap.mp h
  exact List.mem_of_getElem? hi
set_option maxRecDepth 100000 in
theorem wsL_law_r12_in : ∀ w ∈ wsL_law_r12, w ∈ lw_tbl := fun w h => by
  have e : wsL_law_r12 = ([410, 411, 1067, 1068, 1069, 1070, 1071, 912, 1072, 412, 413, 414, 415, 416, 417, 418, 419, 420, 421, 422, 423, 424, 425, 426] : List Nat).filterMap (fun i => lw_tbl[i]?) := rfl
  rw [e] at h
  obtain ⟨i, -, hi⟩ := List.mem_filterMap.mp h
  exact List.mem_of_getElem? hi
set_option maxRecDepth 100000 in
theorem wsL_law_r13_in : ∀ w ∈ wsL_law_r13, w ∈ lw_tbl := fun w h => by
  have e : wsL_law_r13 = ([427, 428, 429, 430, 431, 432, 433, 435, 1, 436, 437, 439, 2, 440, 441, 443, 3, 444, 445, 446, 447, 448, 449, 451] : List Nat).filterMap (fun i => lw_tbl[i]?) := rfl
  rw [e] at h
  obtain ⟨i, -, hi⟩ := List.mem_filterMap.mp h
  exact List.mem_of_getElem? hi
set_option maxRecDepth 100000 in
theorem wsL_law_r14_in : ∀ w ∈ wsL_law_r14, w ∈ lw_tbl := fun w h => by
  have e : wsL_law_r14 = ([4, 452, 453, 454, 455, 456, 458, 5, 459, 460, 461, 462, 463, 464, 465, 466, 467, 468, 1073, 1074, 1075, 1076, 906, 913] : List Nat).filterMap (fun i => lw_tbl[i]?) := rfl
  rw [e] at h
  obtain ⟨i, -, hi⟩ := List.mem_filterMap.mp h
  exact List.mem_of_getElem? hi
set_option maxRecDepth 100000 in
theorem wsL_law_r15_in : ∀ w ∈ wsL_law_r15, w ∈ lw_tbl := fun w h => by
  have e : wsL_law_r15 = ([1077, 1079, 30, 1080, 1081, 1083, 31, 1084, 914, 1085, 1087, 32, 1088, 1089, 1091, 33, 1092, 1093, 1095, 34, 1096, 1097, 1098, 1099] : List Nat).filterMap (fun i => lw_tbl[i]?) := rfl
  rw [e] at h
  obtain ⟨i, -, hi⟩ := List.mem_filterMap.mp h
  exact List.mem_of_getElem? hi
set_option maxRecDepth 100000 in
theorem wsL_law_r16_in : ∀ w ∈ wsL_law_r16, w ∈ lw_tbl := fun w h => by
  have e : wsL_law_r16 = ([469, 470, 471, 472, 473, 474, 475, 476, 477, 478, 479, 480, 481, 482, 483, 484, 485, 491, 492, 74, 493, 486, 487, 488] : List Nat).filterMap (fun i => lw_tbl[i]?) := rfl
  rw [e] at h
  obtain ⟨i, -, hi⟩ := List.mem_filterMap.mp h
  exact List.mem_of_getElem? hi
set_option maxRecDepth 100000 in
theorem wsL_law_r17_in : ∀ w ∈ wsL_law_r17, w ∈ lw_tbl := fun w h => by
  have e : wsL_law_r17 = ([489, 490, 494, 495, 496, 497, 498, 499, 500, 501, 502, 503, 504, 1100, 1101, 1102, 1103, 1108, 1104, 1106, 35, 1107, 1109, 1111] : List Nat).filterMap (fun i => lw_tbl[i]?) := rfl
  rw [e] at h
  obtain ⟨i, -, hi⟩ := List.mem_filterMap.mp h
  exact List.mem_of_getElem? hi
set_option maxRecDepth 100000 in
theorem wsL_law_r18_in : ∀ w ∈ wsL_law_r18, w ∈ lw_tbl := fun w h => by
  have e : wsL_law_r18 = ([36, 1112, 1113, 1115, 37, 1116, 1117, 1118, 1119, 505, 506, 507, 508, 509, 1120, 1121, 1122, 1123, 510, 511, 512, 513, 1124, 1125] : List Nat).filterMap (fun i => lw_tbl[i]?) := rfl
  rw [e] at h
  obtain ⟨i, -, hi⟩ := List.mem_filterMap.mp h
  exact List.mem_of_getElem? hi
set_option maxRecDepth 100000 in
theorem wsL_law_r19_in : ∀ w ∈ wsL_law_r19, w ∈ lw_tbl := fun w h => by
  have e : wsL_law_r19 = ([1126, 1127, 1128, 514, 515, 516, 517, 1129, 1130, 1131, 1132, 908, 909, 910, 518, 519, 520, 521, 522, 524, 6, 525, 526, 527] : List Nat).filterMap (fun i => lw_tbl[i]?) := rfl
  rw [e] at h
  obtain ⟨i, -, hi⟩ := List.mem_filterMap.mp h
  exact List.mem_of_getElem? hi
set_option maxRecDepth 100000 in
theorem wsL_law_r20_in : ∀ w ∈ wsL_law_r20, w ∈ lw_tbl := fun w h => by
  have e : wsL_law_r20 = ([528, 529, 530, 531, 532, 533, 535, 534, 536, 537, 538, 540, 7, 541, 542, 543, 545, 8, 546, 554, 555, 556, 547, 548] : List Nat).filterMap (fun i => lw_tbl[i]?) := rfl
  rw [e] at h
  obtain ⟨i, -, hi⟩ := List.mem_filterMap.mp h
  exact List.mem_of_getElem? hi
set_option maxRecDepth 100000 in
theorem wsL_law_r21_in : ∀ w ∈ wsL_law_r21, w ∈ lw_tbl := fun w h => by
  have e : wsL_law_r21 = ([75, 549, 550, 551, 552, 553, 557, 559, 9, 560, 561, 563, 10, 564, 565, 566, 567, 568, 569, 570, 571, 572, 573, 574] : List Nat).filterMap (fun i => lw_tbl[i]?) := rfl
  rw [e] at h
  obtain ⟨i, -, hi⟩ := List.mem_filterMap.mp h
  exact List.mem_of_getElem? hi
set_option maxRecDepth 100000 in
theorem wsL_law_r22_in : ∀ w ∈ wsL_law_r22, w ∈ lw_tbl := fun w h => by
  have e : wsL_law_r22 = ([575, 1133, 1134, 1135, 1136, 1137, 1138, 1140, 38, 1141, 1142, 1144, 39, 1145, 1149, 1146, 1147, 1148, 1150, 1151, 1152, 576, 577, 578] : List Nat).filterMap (fun i => lw_tbl[i]?) := rfl
  rw [e] at h
  obtain ⟨i, -, hi⟩ := List.mem_filterMap.mp h
  exact List.mem_of_getElem? hi
set_option maxRecDepth 100000 in
theorem wsL_law_r23_in : ∀ w ∈ wsL_law_r23, w ∈ lw_tbl := fun w h => by
  have e : wsL_law_r23 = ([579, 580, 581, 582, 583, 584, 585, 586, 587, 588, 1153, 1154, 1155, 1156, 1157, 1159, 40, 1160, 589, 590, 591, 592, 593, 594] : List Nat).filterMap (fun i => lw_tbl[i]?) := rfl
  rw [e] at h
  obtain ⟨i, -, hi⟩ := List.mem_filterMap.mp h
  exact List.mem_of_getElem? hi
set_option maxRecDepth 100000 in
theorem wsL_law_r24_in : ∀ w ∈ wsL_law_r24, w ∈ lw_tbl := fun w h => by
  have e : wsL_law_r24 = ([595, 596, 597, 1161, 1162, 1163, 1164, 1165, 598, 599, 600, 601, 602, 603, 604, 605, 606, 607, 608, 610, 11, 611, 612, 614] : List Nat).filterMap (fun i => lw_tbl[i]?) := rfl
  rw [e] at h
  obtain ⟨i, -, hi⟩ := List.mem_filterMap.mp h
  exact List.mem_of_getElem? hi
set_option maxRecDepth 100000 in
theorem wsL_law_r25_in : ∀ w ∈ wsL_law_r25, w ∈ lw_tbl := fun w h => by
  have e : wsL_law_r25 = ([12, 615, 616, 618, 13, 619, 620, 621, 622, 1166, 1167, 1168, 1169, 1170, 1172, 41, 1173, 1174, 1176, 42, 1177, 1178, 1180, 43] : List Nat).filterMap (fun i => lw_tbl[i]?) := rfl
  rw [e] at h
  obtain ⟨i, -, hi⟩ := List.mem_filterMap.mp h
  exact List.mem_of_getElem? hi
set_option maxRecDepth 100000 in
theorem wsL_law_r26_in : ∀ w ∈ wsL_law_r26, w ∈ lw_tbl := fun w h => by
  have e : wsL_law_r26 = ([1181, 1182, 1184, 44, 1185, 1186, 1188, 45, 1189, 1190, 1191, 1192, 623, 624, 625, 626, 627, 628, 629, 630, 631, 632, 633, 634] : List Nat).filterMap (fun i => lw_tbl[i]?) := rfl
  rw [e] at h
  obtain ⟨i, -, hi⟩ := List.mem_filterMap.mp h
  exact List.mem_of_getElem? hi
set_option maxRecDepth 100000 in
theorem wsL_law_r27_in : ∀ w ∈ wsL_law_r27, w ∈ lw_tbl := fun w h => by
  have e : wsL_law_r27 = ([635, 1193, 1194, 1195, 1196, 1197, 1199, 46, 1200, 636, 637, 638, 639, 640, 641, 642, 643, 644, 645, 646, 647, 648, 649, 650] : List Nat).filterMap (fun i => lw_tbl[i]?) := rfl
  rw [e] at h
  obtain ⟨i, -, hi⟩ := List.mem_filterMap.mp h
  exact List.mem_of_getElem? hi
set_option maxRecDepth 100000 in
theorem wsL_law_r28_in : ∀ w ∈ wsL_law_r28, w ∈ lw_tbl := fun w h => by
  have e : wsL_law_r28 = ([651, 652, 653, 654, 1201, 1202, 1203, 1204, 1205, 1207, 47, 1208, 655, 656, 657, 658, 659, 660, 661, 662, 663, 665, 664, 666] : List Nat).filterMap (fun i => lw_tbl[i]?) := rfl
  rw [e] at h
  obtain ⟨i, -, hi⟩ := List.mem_filterMap.mp h
  exact List.mem_of_getElem? hi
set_option maxRecDepth 100000 in
theorem wsL_law_r29_in : ∀ w ∈ wsL_law_r29, w ∈ lw_tbl := fun w h => by
  have e : wsL_law_r29 = ([668, 14, 669, 670, 671, 672, 674, 15, 675, 676, 678, 16, 679, 680, 681, 682, 683, 684, 686, 17, 687, 688, 690, 18] : List Nat).filterMap (fun i => lw_tbl[i]?) := rfl
  rw [e] at h
  obtain ⟨i, -, hi⟩ := List.mem_filterMap.mp h
  exact List.mem_of_getElem? hi
set_option maxRecDepth 100000 in
theorem wsL_law_r30_in : ∀ w ∈ wsL_law_r30, w ∈ lw_tbl := fun w h => by
  have e : wsL_law_r30 = ([691, 692, 1209, 1210, 1211, 1212, 1213, 1214, 1215, 1216, 1218, 48, 1219, 693, 694, 695, 696, 697, 698, 699, 700, 701, 702, 703] : List Nat).filterMap (fun i => lw_tbl[i]?) := rfl
  rw [e] at h
  obtain ⟨i, -, hi⟩ := List.mem_filterMap.mp h
  exact List.mem_of_getElem? hi
set_option maxRecDepth 100000 in
theorem wsL_law_r31_in : ∀ w ∈ wsL_law_r31, w ∈ lw_tbl := fun w h => by
  have e : wsL_law_r31 = ([704, 705, 706, 707, 708, 709, 710, 711, 712, 1220, 1221, 1222, 1223, 1224, 1226, 49, 1227, 1228, 1230, 50, 1231, 713, 714, 715] : List Nat).filterMap (fun i => lw_tbl[i]?) := rfl
  rw [e] at h
  obtain ⟨i, -, hi⟩ := List.mem_filterMap.mp h
  exact List.mem_of_getElem? hi
set_option maxRecDepth 100000 in
theorem wsL_law_r32_in : ∀ w ∈ wsL_law_r32, w ∈ lw_tbl := fun w h => by
  have e : wsL_law_r32 = ([716, 717, 719, 19, 720, 721, 722, 723, 724, 725, 726, 727, 728, 729, 1232, 1233, 1234, 1235, 1236, 1238, 51, 1239, 1240, 1242] : List Nat).filterMap (fun i => lw_tbl[i]?) := rfl
  rw [e] at h
  obtain ⟨i, -, hi⟩ := List.mem_filterMap.mp h
  exact List.mem_of_getElem? hi
set_option maxRecDepth 100000 in
theorem wsL_law_r33_in : ∀ w ∈ wsL_law_r33, w ∈ lw_tbl := fun w h => by
  have e : wsL_law_r33 = ([52, 1243, 730, 731, 732, 733, 734, 735, 736, 737, 738, 1244, 1245, 1246, 1247, 739, 740, 741, 742, 743, 744, 745, 746, 747] : List Nat).filterMap (fun i => lw_tbl[i]?) := rfl
  rw [e] at h
  obtain ⟨i, -, hi⟩ := List.mem_filterMap.mp h
  exact List.mem_of_getElem? hi
set_option maxRecDepth 100000 in
theorem wsL_law_r34_in : ∀ w ∈ wsL_law_r34, w ∈ lw_tbl := fun w h => by
  have e : wsL_law_r34 = ([748, 749, 750, 751, 752, 753, 754, 755, 1248, 1249, 1250, 1251, 756, 757, 758, 759, 769, 760, 761, 762, 763, 764, 765, 766] : List Nat).filterMap (fun i => lw_tbl[i]?) := rfl
  rw [e] at h
  obtain ⟨i, -, hi⟩ := List.mem_filterMap.mp h
  exact List.mem_of_getElem? hi
set_option maxRecDepth 100000 in
theorem wsL_law_r35_in : ∀ w ∈ wsL_law_r35, w ∈ lw_tbl := fun w h => by
  have e : wsL_law_r35 = ([767, 768, 1252, 1253, 1254, 1255, 1264, 1256, 1258, 53, 1259, 1260, 1262, 54, 1263, 770, 771, 772, 773, 1265, 1266, 1267, 1268, 774] : List Nat).filterMap (fun i => lw_tbl[i]?) := rfl
  rw [e] at h
  obtain ⟨i, -, hi⟩ := List.mem_filterMap.mp h
  exact List.mem_of_getElem? hi
set_option maxRecDepth 100000 in
theorem wsL_law_r36_in : ∀ w ∈ wsL_law_r36, w ∈ lw_tbl := fun w h => by
  have e : wsL_law_r36 = ([775, 776, 777, 1269, 1270, 1271, 1272, 1273, 778, 779, 780, 781, 782, 783, 784, 785, 786, 787, 788, 1274, 1275, 1276, 1277, 1278] : List Nat).filterMap (fun i => lw_tbl[i]?) := rfl
  rw [e] at h
  obtain ⟨i, -, hi⟩ := List.mem_filterMap.mp h
  exact List.mem_of_getElem? hi
set_option maxRecDepth 100000 in
theorem wsL_law_r37_in : ∀ w ∈ wsL_law_r37, w ∈ lw_tbl := fun w h => by
  have e : wsL_law_r37 = ([789, 790, 791, 792, 793, 1279, 1280, 1281, 1282, 794, 795, 796, 797, 798, 800, 20, 801, 1283, 1284, 1285, 1286, 1287, 1289, 55] : List Nat).filterMap (fun i => lw_tbl[i]?) := rfl
  rw [e] at h
  obtain ⟨i, -, hi⟩ := List.mem_filterMap.mp h
  exact List.mem_of_getElem? hi
set_option maxRecDepth 100000 in
theorem wsL_law_r38_in : ∀ w ∈ wsL_law_r38, w ∈ lw_tbl := fun w h => by
  have e : wsL_law_r38 = ([1290, 802, 803, 804, 805, 806, 807, 808, 809, 1291, 1292, 1293, 1294, 810, 811, 812, 813, 814, 815, 816, 817, 818, 819, 821] : List Nat).filterMap (fun i => lw_tbl[i]?) := rfl
  rw [e] at h
  obtain ⟨i, -, hi⟩ := List.mem_filterMap.mp h
  exact List.mem_of_getElem? hi
set_option maxRecDepth 100000 in
theorem wsL_law_r39_in : ∀ w ∈ wsL_law_r39, w ∈ lw_tbl := fun w h => by
  have e : wsL_law_r39 = ([21, 822, 823, 824, 825, 826, 827, 828, 829, 830, 831, 1295, 1296, 1297, 1298, 1299, 945, 832, 833, 834, 835, 836, 837, 838] : List Nat).filterMap (fun i => lw_tbl[i]?) := rfl
  rw [e] at h
  obtain ⟨i, -, hi⟩ := List.mem_filterMap.mp h
  exact List.mem_of_getElem? hi
set_option maxRecDepth 100000 in
theorem wsL_law_r40_in : ∀ w ∈ wsL_law_r40, w ∈ lw_tbl := fun w h => by
  have e : wsL_law_r40 = ([839, 840, 842, 22, 843, 844, 845, 847, 23, 848, 849, 851, 24, 852, 853, 855, 25, 856, 857, 859, 26, 860, 861, 862] : List Nat).filterMap (fun i => lw_tbl[i]?) := rfl
  rw [e] at h
  obtain ⟨i, -, hi⟩ := List.mem_filterMap.mp h
  exact List.mem_of_getElem? hi
set_option maxRecDepth 100000 in
theorem wsL_law_r41_in : ∀ w ∈ wsL_law_r41, w ∈ lw_tbl := fun w h => by
  have e : wsL_law_r41 = ([864, 27, 865, 866, 868, 28, 869, 870, 871, 873, 29, 874, 1300, 1301, 1302, 1303, 1304, 1306, 56, 1307, 1308, 1310, 57, 1311] : List Nat).filterMap (fun i => lw_tbl[i]?) := rfl
  rw [e] at h
  obtain ⟨i, -, hi⟩ := List.mem_filterMap.mp h
  exact List.mem_of_getElem? hi
set_option maxRecDepth 100000 in
theorem wsL_law_r42_in : ∀ w ∈ wsL_law_r42, w ∈ lw_tbl := fun w h => by
  have e : wsL_law_r42 = ([1312, 1314, 58, 1315, 1316, 1318, 59, 1319, 875, 876, 877, 878, 1320, 1321, 1322, 1323, 879, 880, 881, 882, 883, 884, 885, 886] : List Nat).filterMap (fun i => lw_tbl[i]?) := rfl
  rw [e] at h
  obtain ⟨i, -, hi⟩ := List.mem_filterMap.mp h
  exact List.mem_of_getElem? hi
set_option maxRecDepth 100000 in
theorem wsL_law_r43_in : ∀ w ∈ wsL_law_r43, w ∈ lw_tbl := fun w h => by
  have e : wsL_law_r43 = ([1324, 1325, 1326, 1327, 887, 888, 889, 890, 1328, 1329, 1330, 1331] : List Nat).filterMap (fun i => lw_tbl[i]?) := rfl
  rw [e] at h
  obtain ⟨i, -, hi⟩ := List.mem_filterMap.mp h
  exact List.mem_of_getElem? hi
theorem inX0 : ∀ w ∈ wsX00, w ∈ lw_tbl := by decide +kernel
theorem inX1 : ∀ w ∈ wsX10, w ∈ lw_tbl := by decide +kernel
theorem inX2 : ∀ w ∈ wsX20, w ∈ lw_tbl := by decide +kernel
theorem inX3 : ∀ w ∈ wsX30, w ∈ lw_tbl := by decide +kernel
theorem inX4 : ∀ w ∈ wsX40, w ∈ lw_tbl := by decide +kernel
theorem inX5 : ∀ w ∈ wsX50, w ∈ lw_tbl := by decide +kernel
theorem inX6 : ∀ w ∈ wsX60, w ∈ lw_tbl := by decide +kernel
theorem inX7 : ∀ w ∈ wsX70, w ∈ lw_tbl := by decide +kernel
theorem inX8 : ∀ w ∈ wsX80, w ∈ lw_tbl := by decide +kernel
theorem inX9 : ∀ w ∈ wsX90, w ∈ lw_tbl := by decide +kernel
theorem inX10 : ∀ w ∈ wsX100, w ∈ lw_tbl := by decide +kernel
theorem inX11 : ∀ w ∈ wsX110, w ∈ lw_tbl := by decide +kernel
theorem inX12 : ∀ w ∈ wsX120, w ∈ lw_tbl := by decide +kernel
theorem wsL_law_in : ∀ w ∈ wsL_law, w ∈ lw_tbl := by
  intro w h
  unfold wsL_law at h
  simp only [List.mem_append] at h
  have h0 : w ∈ wsL_law_r1 ∨ w ∈ wsL_law_r2 ∨ w ∈ wsL_law_r3 ∨ w ∈ wsL_law_r4 ∨ w ∈ wsL_law_r5 ∨ w ∈ wsL_law_r6 ∨ w ∈ wsL_law_r7 ∨ w ∈ wsL_law_r8 ∨ w ∈ wsL_law_r9 ∨ w ∈ wsL_law_r10 ∨ w ∈ wsL_law_r11 ∨ w ∈ wsL_law_r12 ∨ w ∈ wsL_law_r13 ∨ w ∈ wsL_law_r14 ∨ w ∈ wsL_law_r15 ∨ w ∈ wsL_law_r16 ∨ w ∈ wsL_law_r17 ∨ w ∈ wsL_law_r18 ∨ w ∈ wsL_law_r19 ∨ w ∈ wsL_law_r20 ∨ w ∈ wsL_law_r21 ∨ w ∈ wsL_law_r22 ∨ w ∈ wsL_law_r23 ∨ w ∈ wsL_law_r24 ∨ w ∈ wsL_law_r25 ∨ w ∈ wsL_law_r26 ∨ w ∈ wsL_law_r27 ∨ w ∈ wsL_law_r28 ∨ w ∈ wsL_law_r29 ∨ w ∈ wsL_law_r30 ∨ w ∈ wsL_law_r31 ∨ w ∈ wsL_law_r32 ∨ w ∈ wsL_law_r33 ∨ w ∈ wsL_law_r34 ∨ w ∈ wsL_law_r35 ∨ w ∈ wsL_law_r36 ∨ w ∈ wsL_law_r37 ∨ w ∈ wsL_law_r38 ∨ w ∈ wsL_law_r39 ∨ w ∈ wsL_law_r40 ∨ w ∈ wsL_law_r41 ∨ w ∈ wsL_law_r42 ∨ w ∈ wsL_law_r43 ∨ w ∈ wsX110 ∨ w ∈ wsX120 ∨ w ∈ wsX100 ∨ w ∈ wsX20 ∨ w ∈ wsX00 ∨ w ∈ wsX60 ∨ w ∈ wsX40 ∨ w ∈ wsX30 ∨ w ∈ wsX90 ∨ w ∈ wsX10 ∨ w ∈ wsX70 ∨ w ∈ wsX50 ∨ w ∈ wsX80 := by simpa [or_assoc] using h
  rcases h0 with h | h | h | h | h | h | h | h | h | h | h | h | h | h | h | h | h | h | h | h | h | h | h | h | h | h | h | h | h | h | h | h | h | h | h | h | h | h | h | h | h | h | h | h | h | h | h | h | h | h | h | h | h | h | h | h
  · exact wsL_law_r1_in w h
  · exact wsL_law_r2_in w h
  · exact wsL_law_r3_in w h
  · exact wsL_law_r4_in w h
  · exact wsL_law_r5_in w h
  · exact wsL_law_r6_in w h
  · exact wsL_law_r7_in w h
  · exact wsL_law_r8_in w h
  · exact wsL_law_r9_in w h
  · exact wsL_law_r10_in w h
  · exact wsL_law_r11_in w h
  · exact wsL_law_r12_in w h
  · exact wsL_law_r13_in w h
  · exact wsL_law_r14_in w h
  · exact wsL_law_r15_in w h
  · exact wsL_law_r16_in w h
  · exact wsL_law_r17_in w h
  · exact wsL_law_r18_in w h
  · exact wsL_law_r19_in w h
  · exact wsL_law_r20_in w h
  · exact wsL_law_r21_in w h
  · exact wsL_law_r22_in w h
  · exact wsL_law_r23_in w h
  · exact wsL_law_r24_in w h
  · exact wsL_law_r25_in w h
  · exact wsL_law_r26_in w h
  · exact wsL_law_r27_in w h
  · exact wsL_law_r28_in w h
  · exact wsL_law_r29_in w h
  · exact wsL_law_r30_in w h
  · exact wsL_law_r31_in w h
  · exact wsL_law_r32_in w h
  · exact wsL_law_r33_in w h
  · exact wsL_law_r34_in w h
  · exact wsL_law_r35_in w h
  · exact wsL_law_r36_in w h
  · exact wsL_law_r37_in w h
  · exact wsL_law_r38_in w h
  · exact wsL_law_r39_in w h
  · exact wsL_law_r40_in w h
  · exact wsL_law_r41_in w h
  · exact wsL_law_r42_in w h
  · exact wsL_law_r43_in w h
  · exact inX11 w h
  · exact inX12 w h
  · exact inX10 w h
  · exact inX2 w h
  · exact inX0 w h
  · exact inX6 w h
  · exact inX4 w h
  · exact inX3 w h
  · exact inX9 w h
  · exact inX1 w h
  · exact inX7 w h
  · exact inX5 w h
  · exact inX8 w h
