theorem inlX0 : ∀ w ∈ wsX00, w ∈ wsL_law := fun _ h => List.mem_append_left _ (List.mem_append_left _ (List.mem_append_left _ (List.mem_append_left _ (List.mem_append_left _ (List.mem_append_left _ (List.mem_append_left _ (List.mem_append_left _ (List.mem_append_left _ (List.mem_append_right _ h)))))))))
theorem inlX1 : ∀ w ∈ wsX10, w ∈ wsL_law := fun _ h => List.mem_append_left _ (List.mem_append_left _ (List.mem_append_left _ (List.mem_append_left _ (List.mem_append_right _ h))))
theorem inlX2 : ∀ w ∈ wsX20, w ∈ wsL_law := fun _ h => List.mem_append_left _ (List.mem_append_left _ (List.mem_append_left _ (List.mem_append_left _ (List.mem_append_left _ (List.mem_append_left _ (List.mem_append_left _ (List.mem_append_left _ (List.mem_append_left _ (List.mem_append_left _ (List.mem_append_right _ h))))))))))
theorem inlX3 : ∀ w ∈ wsX30, w ∈ wsL_law := fun _ h => List.mem_append_left _ (List.mem_append_left _ (List.mem_append_left _ (List.mem_append_left _ (List.mem_append_left _ (List.mem_append_left _ (List.mem_append_right _ h))))))
theorem inlX4 : ∀ w ∈ wsX40, w ∈ wsL_law := fun _ h => List.mem_append_left _ (List.mem_append_left _ (List.mem_append_left _ (List.mem_append_left _ (List.mem_append_left _ (List.mem_append_left _ (List.mem_append_left _ (List.mem_append_right _ h)))))))
theorem inlX5 : ∀ w ∈ wsX50, w ∈ wsL_law := fun _ h => List.mem_append_left _ (List.mem_append_left _ (List.mem_append_right _ h))
theorem inlX6 : ∀ w ∈ wsX60, w ∈ wsL_law := fun _ h => List.mem_append_left _ (List.mem_append_left _ (List.mem_append_left _ (List.mem_append_left _ (List.mem_append_left _ (List.mem_append_left _ (List.mem_append_left _ (List.mem_append_left _ (List.mem_append_right _ h))))))))
theorem inlX7 : ∀ w ∈ wsX70, w ∈ wsL_law := fun _ h => List.mem_append_left _ (List.mem_append_left _ (List.mem_append_left _ (List.mem_append_right _ h)))
theorem inlX8 : ∀ w ∈ wsX80, w ∈ wsL_law := fun _ h => List.mem_append_left _ (List.mem_append_right _ h)
theorem inlX9 : ∀ w ∈ wsX90, w ∈ wsL_law := fun _ h => List.mem_append_left _ (List.mem_append_left _ (List.mem_append_left _ (List.mem_append_left _ (List.mem_append_left _ (List.mem_append_right _ h)))))
theorem inlX10 : ∀ w ∈ wsX100, w ∈ wsL_law := fun _ h => List.mem_append_left _ (List.mem_append_left _ (List.mem_append_left _ (List.mem_append_left _ (List.mem_append_left _ (List.mem_append_left _ (List.mem_append_left _ (List.mem_append_left _ (List.mem_append_left _ (List.mem_append_left _ (List.mem_append_left _ (List.mem_append_right _ h)))))))))))
theorem inlX11 : ∀ w ∈ wsX110, w ∈ wsL_law := fun _ h => List.mem_append_left _ (List.mem_append_left _ (List.mem_append_left _ (List.mem_append_left _ (List.mem_append_left _ (List.mem_append_left _ (List.mem_append_left _ (List.mem_append_left _ (List.mem_append_left _ (List.mem_append_left _ (List.mem_append_left _ (List.mem_append_left _ (List.mem_append_left _ (List.mem_append_right _ h)))))))))))))
theorem inlX12 : ∀ w ∈ wsX120, w ∈ wsL_law := fun _ h => List.mem_append_left _ (List.mem_append_left _ (List.mem_append_left _ (List.mem_append_left _ (List.mem_append_left _ (List.mem_append_left _ (List.mem_append_left _ (List.mem_append_left _ (List.mem_append_left _ (List.mem_append_left _ (List.mem_append_left _ (List.mem_append_left _ (List.mem_append_right _ h))))))))))))
set_option maxRecDepth 20000 in
theorem ggL_law_X11_init : GoodIn wsL_law wsX11_init := goodIn_r _ [9, 10, 11, 12, 13, 14, 15, 16, 17, 18, 19, 20, 21, 22, 23, 24, 25, 26, 27, 28, 29, 30, 31, 32, 33, 34, 35, 36, 37, 38, 39, 40, 41, 42, 43, 44, 45, 46, 47, 48, 49, 50, 51, 52, 53, 54, 55, 56, 57, 58, 59, 60, 61, 62, 63, 64, 65, 66, 67, 68, 69, 70, 71, 72, 73, 74, 75, 76, 77, 78, 79, 80, 81, 82, 83, 84, 85, 86, 87, 88, 89, 90, 91, 92, 93, 94, 95, 96, 97, 98, 99, 100, 101, 102, 103, 104, 105, 106, 107, 108, 109, 110, 111, 112, 113, 114, 115, 116, 117, 118, 119, 120, 121, 122, 123, 124, 125, 126, 127, 128, 129, 130, 131, 132, 133, 134, 135, 136, 137, 138, 139, 140, 141, 142, 143, 144, 145, 146, 147, 148, 149, 150, 151, 152, 1081, 1082, 1083, 1084, 1020, 1021, 1022, 1023, 1024, 1025, 1026, 1027, 1085, 1086, 1087, 1088, 1089, 1090, 1091, 1092, 1093, 1094, 1095, 1096, 1097, 1098, 1099, 1100, 1101, 1102, 1103, 1104, 1105, 1106, 1107, 1108, 1109, 1110, 1111, 1112, 1113, 1114, 1115, 1116, 1117, 1118, 1119, 1120, 1121, 1122, 1123, 1124] rfl (by decide +kernel)
set_option maxRecDepth 20000 in
theorem gL_law_X11_init : GoodIn wsL_law (wsX11_init) := ggL_law_X11_init
set_option maxRecDepth 20000 in
theorem ggL_law_X12_init : GoodIn wsL_law wsX12_init := goodIn_r _ [155, 156, 11, 12, 59, 157, 158, 159, 160, 161, 162, 163, 164, 165, 166, 167, 168, 169, 170, 171, 172, 173, 174, 175, 176, 177, 178, 179, 180, 181, 182, 183, 184, 185, 186, 187, 188, 189, 190, 191, 192, 193, 194, 195, 196, 197, 198, 199, 1028, 1029, 1030, 1031, 1032, 1033, 1034, 1035, 1036, 1037, 1038, 1039, 1040, 1041, 1042, 1043, 1044, 1045, 1046, 1047, 1048, 1049, 1050, 1051, 1052, 1053, 1054, 1055, 1056, 1057, 1058, 1059, 1060, 1061, 1062, 1063, 1064, 1065, 1066, 1067, 1068, 1069, 1070, 1071, 1072, 1073, 1074, 1075, 1076, 1077, 1078, 1079, 1080] rfl (by decide +kernel)
set_option maxRecDepth 20000 in
theorem gL_law_X12_init : GoodIn wsL_law (wsX12_init) := ggL_law_X12_init
set_option maxRecDepth 20000 in
theorem ggL_law_X11_flyer : GoodIn wsL_law wsX11_flyer := goodIn_r _ [203, 204, 40, 20, 205, 206, 2, 207, 208, 209, 210, 211, 212, 213, 39, 214, 124, 215, 216, 217, 218, 219, 220, 221, 19, 222, 68, 69, 70, 223, 224, 225, 67, 226, 77, 227, 228, 229, 230, 76, 231, 232, 233, 50, 234, 60, 235, 236, 237, 238, 123, 239, 1020, 1021, 1022, 1023, 1024, 1025, 1026, 1027, 1105, 1106, 1107, 1108, 1109, 1085, 1086, 1087, 1088, 1118, 1119, 1117] rfl (by decide +kernel)
set_option maxRecDepth 20000 in
theorem gL_law_X11_flyer : GoodIn wsL_law (wsV RL 13 RX11 yX11_flyer wsX11_flyer) := goodIn_app (goodIn_of _ (by decide +kernel)) ggL_law_X11_flyer
set_option maxRecDepth 20000 in
theorem ggL_law_X12_flyer : GoodIn wsL_law wsX12_flyer := goodIn_r _ [243, 244, 245, 246, 247, 248, 157, 158, 159, 249, 250, 5, 251, 1028, 1029, 1030, 1031, 1032, 1033, 1034, 1035, 1036, 1037, 1038, 1039, 1040, 1041, 1042, 1043, 1044, 1045, 1046, 1047, 1048, 1049, 1050, 1051, 1052, 1053, 1054, 1055, 1056, 1057, 1058, 1059, 1060, 1061, 1062, 1063, 1064, 1065, 1066, 1067, 1068, 1069, 1070, 1071, 1072, 1073, 1074, 1075, 1076, 1077, 1078, 1079, 1080] rfl (by decide +kernel)
set_option maxRecDepth 20000 in
theorem gL_law_X12_flyer : GoodIn wsL_law (wsV RL 17 RX12 yX12_flyer wsX12_flyer) := goodIn_app (goodIn_of _ (by decide +kernel)) ggL_law_X12_flyer
set_option maxRecDepth 20000 in
theorem ggL_law_X11_feed : GoodIn wsL_law wsX11_feed := goodIn_r _ [255, 16, 208, 209, 2, 210, 256, 257, 258, 15, 259, 52, 260, 261, 262, 263, 51, 264, 265, 232, 233, 50, 234, 60, 1020, 1021, 1022, 1023, 1024, 1025, 1026, 1027, 1081, 1082, 1083, 1084, 1117] rfl (by decide +kernel)
set_option maxRecDepth 20000 in
theorem gL_law_X11_feed : GoodIn wsL_law (wsV RL 20 RX11 yX11_feed wsX11_feed) := goodIn_app (goodIn_of _ (by decide +kernel)) ggL_law_X11_feed
set_option maxRecDepth 20000 in
theorem ggL_law_X12_feed : GoodIn wsL_law wsX12_feed := goodIn_r _ [269, 270, 271, 166, 272, 249, 250, 5, 251, 1028, 1029, 1030, 1031, 1032, 1033, 1034, 1035, 1036, 1037, 1038, 1039, 1040, 1041, 1042, 1043, 1044, 1045, 1046, 1047, 1048, 1049, 1050, 1051, 1052, 1053, 1054, 1055, 1056, 1057, 1058, 1059, 1060, 1061, 1062, 1063, 1064, 1065, 1066, 1067, 1068, 1069, 1070, 1071, 1072, 1073, 1074, 1075, 1076, 1077, 1078, 1079, 1080] rfl (by decide +kernel)
set_option maxRecDepth 20000 in
theorem gL_law_X12_feed : GoodIn wsL_law (wsV RL 24 RX12 yX12_feed wsX12_feed) := goodIn_app (goodIn_of _ (by decide +kernel)) ggL_law_X12_feed
set_option maxRecDepth 20000 in
theorem ggL_law_X11_figure : GoodIn wsL_law wsX11_figure := goodIn_r _ [276, 20, 16, 277, 278, 279, 19, 280, 71, 281, 282, 283, 284, 285, 220, 221, 222, 68, 69, 70, 286, 287, 288, 15, 289, 53, 54, 52, 290, 291, 292, 67, 293, 77, 294, 295, 296, 297, 298, 299, 300, 301, 302, 303, 304, 305, 51, 306, 307, 308, 50, 309, 60, 310, 311, 312, 313, 314, 315, 316, 317, 318, 319, 320, 321, 228, 229, 230, 76, 231, 232, 233, 234, 322, 323, 324, 325, 326, 327, 328, 329, 1020, 1021, 1022, 1023, 1024, 1025, 1026, 1027, 1085, 1086, 1087, 1088, 1081, 1082, 1083, 1084, 1118, 1119, 1117] rfl (by decide +kernel)
set_option maxRecDepth 20000 in
theorem gL_law_X11_figure : GoodIn wsL_law (wsV RL 25 RX11 yX11_figure wsX11_figure) := goodIn_app (goodIn_of _ (by decide +kernel)) ggL_law_X11_figure
set_option maxRecDepth 20000 in
theorem ggL_law_X12_figure : GoodIn wsL_law wsX12_figure := goodIn_r _ [333, 334, 271, 335, 160, 336, 337, 338, 5, 339, 340, 341, 342, 343, 161, 344, 162, 163, 164, 345, 346, 347, 348, 349, 350, 351, 352, 353, 354, 355, 356, 166, 357, 358, 359, 1028, 1029, 1030, 1031, 1032, 1033, 1034, 1035, 1036, 1037, 1038, 1039, 1040, 1041, 1042, 1043, 1044, 1045, 1046, 1047, 1048, 1049, 1050, 1051, 1052, 1053, 1054, 1055, 1056, 1057, 1058, 1059, 1060, 1061, 1062, 1063, 1064, 1065, 1066, 1067, 1068, 1069, 1070, 1071, 1072, 1073, 1074, 1075, 1076, 1077, 1078, 1079, 1080] rfl (by decide +kernel)
set_option maxRecDepth 20000 in
theorem gL_law_X12_figure : GoodIn wsL_law (wsV RL 29 RX12 yX12_figure wsX12_figure) := goodIn_app (goodIn_of _ (by decide +kernel)) ggL_law_X12_figure
set_option maxRecDepth 20000 in
theorem ggL_law_X11_point : GoodIn wsL_law wsX11_point := goodIn_r _ [363, 20, 24, 364, 365, 366, 19, 367, 71, 219, 220, 221, 222, 68, 69, 70, 223, 224, 225, 67, 226, 77, 368, 369, 370, 23, 371, 82, 372, 373, 374, 375, 376, 377, 378, 379, 380, 381, 382, 383, 384, 76, 385, 307, 308, 50, 309, 60, 386, 387, 2, 388, 389, 390, 391, 392, 208, 209, 210, 393, 394, 395, 396, 1020, 1021, 1022, 1023, 1024, 1025, 1026, 1027, 1085, 1086, 1087, 1088, 1118, 1119, 1089, 1090, 1091, 1092, 1117] rfl (by decide +kernel)
set_option maxRecDepth 20000 in
theorem gL_law_X11_point : GoodIn wsL_law (wsV RL 30 RX11 yX11_point wsX11_point) := goodIn_app (goodIn_of _ (by decide +kernel)) ggL_law_X11_point
set_option maxRecDepth 20000 in
theorem ggL_law_X12_point_ : GoodIn wsL_law wsX12_point_ := goodIn_r _ [400, 401, 160, 165, 161, 162, 163, 164, 402, 403, 404, 5, 405, 334, 249, 250, 251, 406, 407, 408, 409, 410, 411, 412, 413, 414, 415, 416, 1028, 1029, 1030, 1031, 1032, 1033, 1034, 1035, 1036, 1037, 1038, 1039, 1040, 1041, 1042, 1043, 1044, 1045, 1046, 1047, 1048, 1049, 1050, 1051, 1052, 1053, 1054, 1055, 1056, 1057, 1058, 1059, 1060, 1061, 1062, 1063, 1064, 1065, 1066, 1067, 1068, 1069, 1070, 1071, 1072, 1073, 1074, 1075, 1076, 1077, 1078, 1079, 1080] rfl (by decide +kernel)
set_option maxRecDepth 20000 in
theorem gL_law_X12_point_ : GoodIn wsL_law (wsV RL 33 RX12 yX12_point_ wsX12_point_) := goodIn_app (goodIn_of _ (by decide +kernel)) ggL_law_X12_point_
set_option maxRecDepth 20000 in
theorem ggL_law_X11_spread : GoodIn wsL_law wsX11_spread := goodIn_r _ [420, 20, 364, 365, 366, 19, 367, 71, 219, 220, 221, 222, 68, 69, 70, 223, 224, 225, 67, 226, 77, 421, 373, 374, 375, 376, 377, 378, 379, 380, 381, 382, 383, 384, 76, 385, 307, 308, 50, 309, 60, 1020, 1021, 1022, 1023, 1024, 1025, 1026, 1027, 1085, 1086, 1087, 1088, 1118, 1119, 1117] rfl (by decide +kernel)
set_option maxRecDepth 20000 in
theorem gL_law_X11_spread : GoodIn wsL_law (wsV RL 34 RX11 yX11_spread wsX11_spread) := goodIn_app (goodIn_of _ (by decide +kernel)) ggL_law_X11_spread
set_option maxRecDepth 20000 in
theorem ggL_law_X12_spread : GoodIn wsL_law wsX12_spread := goodIn_r _ [425, 402, 403, 404, 5, 405, 334, 406, 407, 408, 409, 160, 410, 411, 412, 413, 161, 162, 163, 414, 415, 416, 1028, 1029, 1030, 1031, 1032, 1033, 1034, 1035, 1036, 1037, 1038, 1039, 1040, 1041, 1042, 1043, 1044, 1045, 1046, 1047, 1048, 1049, 1050, 1051, 1052, 1053, 1054, 1055, 1056, 1057, 1058, 1059, 1060, 1061, 1062, 1063, 1064, 1065, 1066, 1067, 1068, 1069, 1070, 1071, 1072, 1073, 1074, 1075, 1076, 1077, 1078, 1079, 1080] rfl (by decide +kernel)
set_option maxRecDepth 20000 in
theorem gL_law_X12_spread : GoodIn wsL_law (wsV RL 38 RX12 yX12_spread wsX12_spread) := goodIn_app (goodIn_of _ (by decide +kernel)) ggL_law_X12_spread
set_option maxRecDepth 20000 in
theorem ggL_law_X11_gap : GoodIn wsL_law wsX11_gap := goodIn_r _ [429, 24, 208, 209, 2, 210, 1020, 1021, 1022, 1023, 1024, 1025, 1026, 1027, 1089, 1090, 1091, 1092] rfl (by decide +kernel)
set_option maxRecDepth 20000 in
theorem gL_law_X11_gap : GoodIn wsL_law (wsV RL 39 RX11 yX11_gap wsX11_gap) := goodIn_app (goodIn_of _ (by decide +kernel)) ggL_law_X11_gap
set_option maxRecDepth 20000 in
theorem ggL_law_X12_gap : GoodIn wsL_law wsX12_gap := goodIn_r _ [433, 434, 165, 249, 250, 5, 251, 1028, 1029, 1030, 1031, 1032, 1033, 1034, 1035, 1036, 1037, 1038, 1039, 1040, 1041, 1042, 1043, 1044, 1045, 1046, 1047, 1048, 1049, 1050, 1051, 1052, 1053, 1054, 1055, 1056, 1057, 1058, 1059, 1060, 1061, 1062, 1063, 1064, 1065, 1066, 1067, 1068, 1069, 1070, 1071, 1072, 1073, 1074, 1075, 1076, 1077, 1078, 1079, 1080] rfl (by decide +kernel)
set_option maxRecDepth 20000 in
theorem gL_law_X12_gap : GoodIn wsL_law (wsV RL 42 RX12 yX12_gap wsX12_gap) := goodIn_app (goodIn_of _ (by decide +kernel)) ggL_law_X12_gap
set_option maxRecDepth 20000 in
theorem ggL_law_X11_zone : GoodIn wsL_law wsX11_zone := goodIn_r _ [438, 24, 205, 206, 2, 207, 208, 209, 210, 1020, 1021, 1022, 1023, 1024, 1025, 1026, 1027, 1089, 1090, 1091, 1092] rfl (by decide +kernel)
set_option maxRecDepth 20000 in
theorem gL_law_X11_zone : GoodIn wsL_law (wsV RL 43 RX11 yX11_zone wsX11_zone) := goodIn_app (goodIn_of _ (by decide +kernel)) ggL_law_X11_zone
set_option maxRecDepth 20000 in
theorem ggL_law_X12_zone : GoodIn wsL_law wsX12_zone := goodIn_r _ [442, 244, 245, 443, 444, 445, 249, 250, 5, 251, 1028, 1029, 1030, 1031, 1032, 1033, 1034, 1035, 1036, 1037, 1038, 1039, 1040, 1041, 1042, 1043, 1044, 1045, 1046, 1047, 1048, 1049, 1050, 1051, 1052, 1053, 1054, 1055, 1056, 1057, 1058, 1059, 1060, 1061, 1062, 1063, 1064, 1065, 1066, 1067, 1068, 1069, 1070, 1071, 1072, 1073, 1074, 1075, 1076, 1077, 1078, 1079, 1080] rfl (by decide +kernel)
set_option maxRecDepth 20000 in
theorem gL_law_X12_zone : GoodIn wsL_law (wsV RL 46 RX12 yX12_zone wsX12_zone) := goodIn_app (goodIn_of _ (by decide +kernel)) ggL_law_X12_zone
set_option maxRecDepth 20000 in
theorem ggL_law_X11_pass : GoodIn wsL_law wsX11_pass := goodIn_r _ [449, 20, 32, 28, 450, 451, 452, 2, 453, 364, 365, 366, 19, 367, 71, 208, 209, 210, 219, 220, 221, 222, 68, 69, 70, 223, 224, 225, 67, 226, 77, 454, 455, 456, 31, 457, 99, 100, 98, 458, 459, 460, 27, 461, 462, 378, 379, 380, 90, 91, 463, 464, 382, 383, 384, 76, 385, 307, 308, 50, 309, 60, 465, 232, 233, 234, 466, 467, 468, 469, 470, 471, 472, 473, 474, 475, 476, 477, 478, 479, 480, 481, 482, 483, 484, 485, 486, 487, 488, 489, 92, 490, 491, 492, 493, 494, 495, 496, 497, 498, 499, 394, 395, 396, 500, 501, 502, 503, 504, 1020, 1021, 1022, 1023, 1024, 1025, 1026, 1027, 1085, 1086, 1087, 1088, 1118, 1119, 1096, 1097, 1098, 1093, 1094, 1095, 1117] rfl (by decide +kernel)
set_option maxRecDepth 20000 in
theorem gL_law_X11_pass : GoodIn wsL_law (wsV RL 47 RX11 yX11_pass wsX11_pass) := goodIn_app (goodIn_of _ (by decide +kernel)) ggL_law_X11_pass
set_option maxRecDepth 20000 in
theorem ggL_law_X12_pass : GoodIn wsL_law wsX12_pass := goodIn_r _ [508, 509, 248, 160, 176, 179, 402, 403, 404, 5, 405, 334, 249, 250, 251, 510, 511, 512, 513, 174, 175, 167, 157, 161, 168, 158, 162, 169, 163, 170, 171, 172, 173, 514, 515, 516, 517, 177, 178, 518, 180, 181, 182, 414, 415, 416, 519, 520, 521, 522, 523, 524, 1028, 1029, 1030, 1031, 1032, 1033, 1034, 1035, 1036, 1037, 1038, 1039, 1040, 1041, 1042, 1043, 1044, 1045, 1046, 1047, 1048, 1049, 1050, 1051, 1052, 1053, 1054, 1055, 1056, 1057, 1058, 1059, 1060, 1061, 1062, 1063, 1064, 1065, 1066, 1067, 1068, 1069, 1070, 1071, 1072, 1073, 1074, 1075, 1076, 1077, 1078, 1079, 1080] rfl (by decide +kernel)
set_option maxRecDepth 20000 in
theorem gL_law_X12_pass : GoodIn wsL_law (wsV RL 50 RX12 yX12_pass wsX12_pass) := goodIn_app (goodIn_of _ (by decide +kernel)) ggL_law_X12_pass
set_option maxRecDepth 20000 in
theorem ggL_law_X11_goes : GoodIn wsL_law wsX11_goes := goodIn_r _ [528, 32, 529, 530, 531, 31, 532, 99, 533, 534, 535, 536, 98, 537, 307, 308, 50, 309, 60, 1020, 1021, 1022, 1023, 1024, 1025, 1026, 1027, 1096, 1097, 1098, 1117] rfl (by decide +kernel)
set_option maxRecDepth 20000 in
theorem gL_law_X11_goes : GoodIn wsL_law (wsV RL 51 RX11 yX11_goes wsX11_goes) := goodIn_app (goodIn_of _ (by decide +kernel)) ggL_law_X11_goes
set_option maxRecDepth 20000 in
theorem ggL_law_X12_goes : GoodIn wsL_law wsX12_goes := goodIn_r _ [541, 176, 542, 543, 544, 5, 545, 175, 1028, 1029, 1030, 1031, 1032, 1033, 1034, 1035, 1036, 1037, 1038, 1039, 1040, 1041, 1042, 1043, 1044, 1045, 1046, 1047, 1048, 1049, 1050, 1051, 1052, 1053, 1054, 1055, 1056, 1057, 1058, 1059, 1060, 1061, 1062, 1063, 1064, 1065, 1066, 1067, 1068, 1069, 1070, 1071, 1072, 1073, 1074, 1075, 1076, 1077, 1078, 1079, 1080] rfl (by decide +kernel)
set_option maxRecDepth 20000 in
theorem gL_law_X12_goes : GoodIn wsL_law (wsV RL 54 RX12 yX12_goes wsX12_goes) := goodIn_app (goodIn_of _ (by decide +kernel)) ggL_law_X12_goes
set_option maxRecDepth 20000 in
theorem ggL_law_X11_delay : GoodIn wsL_law wsX11_delay := goodIn_r _ [549, 32, 529, 530, 531, 31, 532, 99, 208, 209, 2, 210, 550, 551, 552, 553, 98, 537, 307, 308, 50, 309, 60, 554, 502, 503, 504, 500, 232, 233, 234, 1020, 1021, 1022, 1023, 1024, 1025, 1026, 1027, 1096, 1097, 1098, 1117] rfl (by decide +kernel)
set_option maxRecDepth 20000 in
theorem gL_law_X11_delay : GoodIn wsL_law (wsV RL 55 RX11 yX11_delay wsX11_delay) := goodIn_app (goodIn_of _ (by decide +kernel)) ggL_law_X11_delay
set_option maxRecDepth 20000 in
theorem ggL_law_X12_delay : GoodIn wsL_law wsX12_delay := goodIn_r _ [558, 559, 173, 542, 543, 544, 5, 545, 175, 249, 250, 251, 1028, 1029, 1030, 1031, 1032, 1033, 1034, 1035, 1036, 1037, 1038, 1039, 1040, 1041, 1042, 1043, 1044, 1045, 1046, 1047, 1048, 1049, 1050, 1051, 1052, 1053, 1054, 1055, 1056, 1057, 1058, 1059, 1060, 1061, 1062, 1063, 1064, 1065, 1066, 1067, 1068, 1069, 1070, 1071, 1072, 1073, 1074, 1075, 1076, 1077, 1078, 1079, 1080] rfl (by decide +kernel)
set_option maxRecDepth 20000 in
theorem gL_law_X12_delay : GoodIn wsL_law (wsV RL 59 RX12 yX12_delay wsX12_delay) := goodIn_app (goodIn_of _ (by decide +kernel)) ggL_law_X12_delay
set_option maxRecDepth 20000 in
theorem ggL_law_X11_clash : GoodIn wsL_law wsX11_clash := goodIn_r _ [563, 32, 24, 529, 530, 531, 31, 532, 99, 550, 551, 552, 553, 98, 537, 307, 308, 50, 309, 60, 564, 565, 566, 567, 568, 378, 379, 380, 569, 476, 477, 100, 570, 571, 572, 573, 574, 575, 576, 577, 578, 579, 580, 581, 582, 583, 23, 584, 386, 387, 2, 388, 1020, 1021, 1022, 1023, 1024, 1025, 1026, 1027, 1089, 1090, 1091, 1092, 1096, 1097, 1098, 1117] rfl (by decide +kernel)
set_option maxRecDepth 20000 in
theorem gL_law_X11_clash : GoodIn wsL_law (wsV RL 60 RX11 yX11_clash wsX11_clash) := goodIn_app (goodIn_of _ (by decide +kernel)) ggL_law_X11_clash
set_option maxRecDepth 20000 in
theorem ggL_law_X12_clash_ : GoodIn wsL_law wsX12_clash_ := goodIn_r _ [588, 174, 542, 543, 544, 5, 545, 175, 589, 590, 591, 592, 165, 593, 594, 595, 596, 167, 170, 597, 598, 599, 600, 173, 601, 602, 603, 604, 168, 171, 605, 606, 607, 608, 169, 172, 609, 610, 611, 1028, 1029, 1030, 1031, 1032, 1033, 1034, 1035, 1036, 1037, 1038, 1039, 1040, 1041, 1042, 1043, 1044, 1045, 1046, 1047, 1048, 1049, 1050, 1051, 1052, 1053, 1054, 1055, 1056, 1057, 1058, 1059, 1060, 1061, 1062, 1063, 1064, 1065, 1066, 1067, 1068, 1069, 1070, 1071, 1072, 1073, 1074, 1075, 1076, 1077, 1078, 1079, 1080] rfl (by decide +kernel)
set_option maxRecDepth 20000 in
theorem gL_law_X12_clash_ : GoodIn wsL_law (wsV RL 63 RX12 yX12_clash_ wsX12_clash_) := goodIn_app (goodIn_of _ (by decide +kernel)) ggL_law_X12_clash_
set_option maxRecDepth 20000 in
theorem ggL_law_X11_enters : GoodIn wsL_law wsX11_enters := goodIn_r _ [615, 32, 24, 529, 530, 531, 31, 532, 99, 616, 617, 618, 619, 98, 537, 307, 308, 50, 309, 60, 620, 621, 622, 23, 623, 83, 84, 85, 624, 583, 584, 386, 387, 2, 388, 1020, 1021, 1022, 1023, 1024, 1025, 1026, 1027, 1096, 1097, 1098, 1117, 1089, 1090, 1091, 1092] rfl (by decide +kernel)
set_option maxRecDepth 20000 in
theorem gL_law_X11_enters : GoodIn wsL_law (wsV RL 64 RX11 yX11_enters wsX11_enters) := goodIn_app (goodIn_of _ (by decide +kernel)) ggL_law_X11_enters
set_option maxRecDepth 20000 in
theorem ggL_law_X12_enters_ : GoodIn wsL_law wsX12_enters_ := goodIn_r _ [628, 174, 542, 543, 544, 5, 545, 175, 629, 630, 631, 632, 445, 443, 444, 593, 594, 595, 596, 167, 170, 597, 598, 599, 600, 173, 601, 602, 603, 604, 168, 171, 609, 610, 611, 1028, 1029, 1030, 1031, 1032, 1033, 1034, 1035, 1036, 1037, 1038, 1039, 1040, 1041, 1042, 1043, 1044, 1045, 1046, 1047, 1048, 1049, 1050, 1051, 1052, 1053, 1054, 1055, 1056, 1057, 1058, 1059, 1060, 1061, 1062, 1063, 1064, 1065, 1066, 1067, 1068, 1069, 1070, 1071, 1072, 1073, 1074, 1075, 1076, 1077, 1078, 1079, 1080] rfl (by decide +kernel)
set_option maxRecDepth 20000 in
theorem gL_law_X12_enters_ : GoodIn wsL_law (wsV RL 67 RX12 yX12_enters_ wsX12_enters_) := goodIn_app (goodIn_of _ (by decide +kernel)) ggL_law_X12_enters_
set_option maxRecDepth 20000 in
theorem ggL_law_X11_clean : GoodIn wsL_law wsX11_clean := goodIn_r _ [636, 32, 24, 637, 638, 639, 31, 640, 99, 641, 642, 643, 644, 645, 551, 552, 553, 98, 537, 307, 308, 50, 309, 60, 646, 565, 566, 567, 568, 378, 379, 380, 569, 476, 477, 100, 570, 571, 572, 573, 574, 575, 576, 577, 578, 579, 580, 581, 582, 583, 23, 584, 647, 648, 649, 650, 651, 617, 618, 619, 620, 621, 622, 623, 83, 84, 85, 624, 386, 387, 2, 388, 1020, 1021, 1022, 1023, 1024, 1025, 1026, 1027, 1096, 1097, 1098, 1089, 1090, 1091, 1092, 1117] rfl (by decide +kernel)
set_option maxRecDepth 20000 in
theorem gL_law_X11_clean : GoodIn wsL_law (wsV RL 68 RX11 yX11_clean wsX11_clean) := goodIn_app (goodIn_of _ (by decide +kernel)) ggL_law_X11_clean
set_option maxRecDepth 20000 in
theorem ggL_law_X12_clean : GoodIn wsL_law wsX12_clean := goodIn_r _ [655, 175, 656, 657, 658, 5, 659, 174, 629, 630, 631, 632, 445, 443, 444, 593, 594, 595, 596, 167, 170, 597, 598, 599, 600, 173, 601, 602, 603, 604, 168, 171, 609, 610, 611, 589, 590, 591, 592, 165, 605, 606, 607, 608, 169, 172, 1028, 1029, 1030, 1031, 1032, 1033, 1034, 1035, 1036, 1037, 1038, 1039, 1040, 1041, 1042, 1043, 1044, 1045, 1046, 1047, 1048, 1049, 1050, 1051, 1052, 1053, 1054, 1055, 1056, 1057, 1058, 1059, 1060, 1061, 1062, 1063, 1064, 1065, 1066, 1067, 1068, 1069, 1070, 1071, 1072, 1073, 1074, 1075, 1076, 1077, 1078, 1079, 1080] rfl (by decide +kernel)
set_option maxRecDepth 20000 in
theorem gL_law_X12_clean : GoodIn wsL_law (wsV RL 71 RX12 yX12_clean wsX12_clean) := goodIn_app (goodIn_of _ (by decide +kernel)) ggL_law_X12_clean
set_option maxRecDepth 20000 in
theorem ggL_law_X11_part : GoodIn wsL_law wsX11_part := goodIn_r _ [663, 32, 24, 36, 637, 638, 639, 31, 640, 99, 664, 648, 649, 650, 651, 617, 618, 619, 98, 537, 307, 308, 50, 309, 60, 620, 621, 622, 23, 623, 83, 84, 85, 624, 583, 584, 665, 666, 667, 35, 668, 109, 669, 378, 379, 380, 110, 111, 108, 670, 671, 672, 673, 674, 106, 675, 565, 566, 567, 568, 569, 476, 477, 100, 570, 571, 572, 573, 574, 575, 576, 577, 578, 579, 580, 581, 582, 676, 232, 233, 234, 677, 678, 679, 680, 681, 682, 683, 684, 107, 685, 686, 687, 688, 689, 690, 691, 692, 693, 694, 695, 696, 697, 502, 503, 504, 500, 1020, 1021, 1022, 1023, 1024, 1025, 1026, 1027, 1089, 1090, 1091, 1092, 1096, 1097, 1098, 1117, 1099, 1100, 1101, 1102, 1103, 1104] rfl (by decide +kernel)
set_option maxRecDepth 20000 in
theorem gL_law_X11_part : GoodIn wsL_law (wsV RL 72 RX11 yX11_part wsX11_part) := goodIn_app (goodIn_of _ (by decide +kernel)) ggL_law_X11_part
set_option maxRecDepth 20000 in
theorem ggL_law_X12_part : GoodIn wsL_law wsX12_part := goodIn_r _ [701, 175, 183, 173, 702, 703, 5, 704, 705, 706, 707, 708, 656, 657, 658, 659, 174, 629, 630, 631, 632, 445, 443, 444, 593, 594, 595, 596, 167, 170, 597, 598, 599, 600, 601, 602, 603, 604, 168, 171, 609, 610, 611, 589, 590, 591, 592, 165, 605, 606, 607, 608, 169, 172, 1028, 1029, 1030, 1031, 1032, 1033, 1034, 1035, 1036, 1037, 1038, 1039, 1040, 1041, 1042, 1043, 1044, 1045, 1046, 1047, 1048, 1049, 1050, 1051, 1052, 1053, 1054, 1055, 1056, 1057, 1058, 1059, 1060, 1061, 1062, 1063, 1064, 1065, 1066, 1067, 1068, 1069, 1070, 1071, 1072, 1073, 1074, 1075, 1076, 1077, 1078, 1079, 1080] rfl (by decide +kernel)
set_option maxRecDepth 20000 in
theorem gL_law_X12_part : GoodIn wsL_law (wsV RL 75 RX12 yX12_part wsX12_part) := goodIn_app (goodIn_of _ (by decide +kernel)) ggL_law_X12_part
set_option maxRecDepth 20000 in
theorem ggL_law_X11_scene : GoodIn wsL_law wsX11_scene := goodIn_r _ [712, 20, 40, 28, 364, 365, 366, 19, 367, 71, 208, 209, 2, 210, 219, 220, 221, 222, 68, 69, 70, 223, 224, 225, 67, 226, 77, 215, 216, 217, 218, 211, 212, 213, 39, 214, 124, 713, 714, 715, 716, 717, 718, 719, 720, 118, 121, 721, 722, 723, 724, 454, 455, 456, 31, 457, 99, 100, 98, 458, 459, 460, 27, 461, 462, 378, 379, 380, 90, 91, 463, 464, 382, 383, 384, 76, 385, 307, 308, 50, 309, 60, 465, 232, 233, 234, 466, 467, 468, 469, 470, 471, 472, 473, 474, 475, 476, 477, 478, 479, 480, 481, 482, 483, 484, 485, 486, 487, 488, 489, 92, 490, 491, 492, 493, 494, 495, 496, 497, 498, 499, 394, 395, 396, 500, 501, 502, 503, 504, 725, 726, 727, 728, 1020, 1021, 1022, 1023, 1024, 1025, 1026, 1027, 1120, 1121, 1122, 1123, 1124, 1085, 1086, 1087, 1088, 1118, 1119, 1105, 1106, 1107, 1108, 1109, 1096, 1097, 1098, 1093, 1094, 1095, 1117] rfl (by decide +kernel)
set_option maxRecDepth 20000 in
theorem gL_law_X11_scene : GoodIn wsL_law (wsV RL 76 RX11 yX11_scene wsX11_scene) := goodIn_app (goodIn_of _ (by decide +kernel)) ggL_law_X11_scene
set_option maxRecDepth 20000 in
theorem ggL_law_X12_scene : GoodIn wsL_law wsX12_scene := goodIn_r _ [732, 509, 434, 272, 160, 248, 247, 184, 185, 186, 187, 188, 179, 402, 403, 404, 5, 405, 334, 249, 250, 251, 733, 734, 735, 736, 510, 511, 512, 513, 174, 175, 167, 157, 161, 168, 158, 162, 169, 163, 170, 171, 172, 173, 514, 515, 516, 517, 177, 178, 518, 180, 181, 182, 414, 415, 416, 519, 520, 521, 522, 523, 524, 737, 738, 739, 740, 1028, 1029, 1030, 1031, 1032, 1033, 1034, 1035, 1036, 1037, 1038, 1039, 1040, 1041, 1042, 1043, 1044, 1045, 1046, 1047, 1048, 1049, 1050, 1051, 1052, 1053, 1054, 1055, 1056, 1057, 1058, 1059, 1060, 1061, 1062, 1063, 1064, 1065, 1066, 1067, 1068, 1069, 1070, 1071, 1072, 1073, 1074, 1075, 1076, 1077, 1078, 1079, 1080] rfl (by decide +kernel)
set_option maxRecDepth 20000 in
theorem gL_law_X12_scene : GoodIn wsL_law (wsV RL 80 RX12 yX12_scene wsX12_scene) := goodIn_app (goodIn_of _ (by decide +kernel)) ggL_law_X12_scene
set_option maxRecDepth 20000 in
theorem ggL_law_X11_stands : GoodIn wsL_law wsX11_stands := goodIn_r _ [744, 40, 745, 746, 747, 2, 748, 20, 219, 220, 221, 19, 222, 68, 69, 70, 389, 390, 391, 67, 392, 77, 749, 750, 751, 39, 752, 124, 753, 754, 755, 756, 717, 718, 719, 720, 118, 121, 757, 534, 535, 31, 536, 98, 537, 307, 308, 50, 309, 60, 1020, 1021, 1022, 1023, 1024, 1025, 1026, 1027, 1085, 1086, 1087, 1088, 1118, 1119, 1105, 1106, 1107, 1108, 1109, 1120, 1121, 1122, 1123, 1124, 1096, 1097, 1098, 1117] rfl (by decide +kernel)
set_option maxRecDepth 20000 in
theorem gL_law_X11_stands : GoodIn wsL_law (wsV RL 81 RX11 yX11_stands wsX11_stands) := goodIn_app (goodIn_of _ (by decide +kernel)) ggL_law_X11_stands
set_option maxRecDepth 20000 in
theorem ggL_law_X12_stands : GoodIn wsL_law wsX12_stands := goodIn_r _ [761, 188, 762, 763, 764, 5, 765, 248, 766, 767, 768, 769, 247, 1028, 1029, 1030, 1031, 1032, 1033, 1034, 1035, 1036, 1037, 1038, 1039, 1040, 1041, 1042, 1043, 1044, 1045, 1046, 1047, 1048, 1049, 1050, 1051, 1052, 1053, 1054, 1055, 1056, 1057, 1058, 1059, 1060, 1061, 1062, 1063, 1064, 1065, 1066, 1067, 1068, 1069, 1070, 1071, 1072, 1073, 1074, 1075, 1076, 1077, 1078, 1079, 1080] rfl (by decide +kernel)
set_option maxRecDepth 20000 in
theorem gL_law_X12_stands : GoodIn wsL_law (wsV RL 84 RX12 yX12_stands wsX12_stands) := goodIn_app (goodIn_of _ (by decide +kernel)) ggL_law_X12_stands
set_option maxRecDepth 20000 in
theorem ggL_law_X11_lands : GoodIn wsL_law wsX11_lands := goodIn_r _ [773, 40, 745, 746, 747, 2, 748, 20, 219, 220, 221, 19, 222, 68, 69, 70, 389, 390, 391, 67, 392, 77, 211, 212, 213, 39, 214, 124, 774, 775, 776, 777, 717, 718, 719, 720, 118, 121, 778, 754, 755, 756, 757, 534, 535, 31, 536, 98, 537, 307, 308, 50, 309, 60, 1020, 1021, 1022, 1023, 1024, 1025, 1026, 1027, 1085, 1086, 1087, 1088, 1118, 1119, 1105, 1106, 1107, 1108, 1109, 1120, 1121, 1122, 1123, 1124, 1096, 1097, 1098, 1117] rfl (by decide +kernel)
set_option maxRecDepth 20000 in
theorem gL_law_X11_lands : GoodIn wsL_law (wsV RL 85 RX11 yX11_lands wsX11_lands) := goodIn_app (goodIn_of _ (by decide +kernel)) ggL_law_X11_lands
set_option maxRecDepth 20000 in
theorem ggL_law_X12_lands : GoodIn wsL_law wsX12_lands := goodIn_r _ [782, 247, 179, 762, 763, 764, 5, 765, 248, 733, 734, 735, 736, 184, 185, 510, 511, 512, 513, 160, 174, 175, 167, 157, 161, 168, 158, 162, 169, 163, 170, 171, 172, 173, 514, 515, 516, 517, 177, 178, 518, 180, 181, 182, 414, 415, 416, 519, 520, 521, 522, 523, 524, 737, 738, 739, 740, 188, 1028, 1029, 1030, 1031, 1032, 1033, 1034, 1035, 1036, 1037, 1038, 1039, 1040, 1041, 1042, 1043, 1044, 1045, 1046, 1047, 1048, 1049, 1050, 1051, 1052, 1053, 1054, 1055, 1056, 1057, 1058, 1059, 1060, 1061, 1062, 1063, 1064, 1065, 1066, 1067, 1068, 1069, 1070, 1071, 1072, 1073, 1074, 1075, 1076, 1077, 1078, 1079, 1080] rfl (by decide +kernel)
set_option maxRecDepth 20000 in
theorem gL_law_X12_lands : GoodIn wsL_law (wsV RL 88 RX12 yX12_lands wsX12_lands) := goodIn_app (goodIn_of _ (by decide +kernel)) ggL_law_X12_lands
set_option maxRecDepth 20000 in
theorem ggL_law_X11_length : GoodIn wsL_law wsX11_length := goodIn_r _ [786, 40, 787, 788, 789, 39, 790, 124, 717, 718, 719, 720, 118, 121, 791, 792, 793, 120, 794, 130, 133, 795, 796, 797, 31, 798, 100, 799, 1020, 1021, 1022, 1023, 1024, 1025, 1026, 1027, 1105, 1106, 1107, 1108, 1109, 1120, 1121, 1122, 1123, 1124, 1096, 1097, 1098] rfl (by decide +kernel)
set_option maxRecDepth 20000 in
theorem gL_law_X11_length : GoodIn wsL_law (wsV RL 89 RX11 yX11_length wsX11_length) := goodIn_app (goodIn_of _ (by decide +kernel)) ggL_law_X11_length
set_option maxRecDepth 20000 in
theorem ggL_law_X12_length : GoodIn wsL_law wsX12_length := goodIn_r _ [803, 247, 185, 186, 1028, 1029, 1030, 1031, 1032, 1033, 1034, 1035, 1036, 1037, 1038, 1039, 1040, 1041, 1042, 1043, 1044, 1045, 1046, 1047, 1048, 1049, 1050, 1051, 1052, 1053, 1054, 1055, 1056, 1057, 1058, 1059, 1060, 1061, 1062, 1063, 1064, 1065, 1066, 1067, 1068, 1069, 1070, 1071, 1072, 1073, 1074, 1075, 1076, 1077, 1078, 1079, 1080] rfl (by decide +kernel)
set_option maxRecDepth 20000 in
theorem gL_law_X12_length : GoodIn wsL_law (wsV RL 92 RX12 yX12_length wsX12_length) := goodIn_app (goodIn_of _ (by decide +kernel)) ggL_law_X12_length
set_option maxRecDepth 20000 in
theorem ggL_law_X11_left : GoodIn wsL_law wsX11_left := goodIn_r _ [807, 40, 808, 745, 746, 747, 2, 748, 20, 219, 220, 221, 19, 222, 68, 69, 70, 389, 390, 391, 67, 392, 77, 809, 810, 811, 39, 812, 123, 124, 813, 307, 308, 50, 309, 60, 717, 718, 719, 720, 118, 121, 814, 815, 816, 31, 817, 98, 100, 537, 757, 534, 535, 536, 1020, 1021, 1022, 1023, 1024, 1025, 1026, 1027, 1085, 1086, 1087, 1088, 1118, 1119, 1105, 1106, 1107, 1108, 1109, 1120, 1121, 1122, 1123, 1124, 1117, 1096, 1097, 1098] rfl (by decide +kernel)
set_option maxRecDepth 20000 in
theorem gL_law_X11_left : GoodIn wsL_law (wsV RL 93 RX11 yX11_left wsX11_left) := goodIn_app (goodIn_of _ (by decide +kernel)) ggL_law_X11_left
set_option maxRecDepth 20000 in
theorem ggL_law_X12_left : GoodIn wsL_law wsX12_left := goodIn_r _ [821, 822, 762, 763, 764, 5, 765, 248, 823, 824, 825, 826, 159, 247, 186, 185, 827, 828, 829, 830, 163, 184, 188, 1028, 1029, 1030, 1031, 1032, 1033, 1034, 1035, 1036, 1037, 1038, 1039, 1040, 1041, 1042, 1043, 1044, 1045, 1046, 1047, 1048, 1049, 1050, 1051, 1052, 1053, 1054, 1055, 1056, 1057, 1058, 1059, 1060, 1061, 1062, 1063, 1064, 1065, 1066, 1067, 1068, 1069, 1070, 1071, 1072, 1073, 1074, 1075, 1076, 1077, 1078, 1079, 1080] rfl (by decide +kernel)
set_option maxRecDepth 20000 in
theorem gL_law_X12_left : GoodIn wsL_law (wsV RL 96 RX12 yX12_left wsX12_left) := goodIn_app (goodIn_of _ (by decide +kernel)) ggL_law_X12_left
set_option maxRecDepth 20000 in
theorem ggL_law_X11_last : GoodIn wsL_law wsX11_last := goodIn_r _ [834, 40, 215, 216, 217, 2, 218, 20, 219, 220, 221, 19, 222, 68, 69, 70, 223, 224, 225, 67, 226, 77, 809, 810, 811, 39, 812, 123, 124, 813, 307, 308, 50, 309, 60, 717, 718, 719, 720, 118, 121, 814, 815, 816, 31, 817, 98, 100, 537, 757, 534, 535, 536, 1020, 1021, 1022, 1023, 1024, 1025, 1026, 1027, 1105, 1106, 1107, 1108, 1109, 1085, 1086, 1087, 1088, 1118, 1119, 1120, 1121, 1122, 1123, 1124, 1117, 1096, 1097, 1098] rfl (by decide +kernel)
set_option maxRecDepth 20000 in
theorem gL_law_X11_last : GoodIn wsL_law (wsV RL 97 RX11 yX11_last wsX11_last) := goodIn_app (goodIn_of _ (by decide +kernel)) ggL_law_X11_last
set_option maxRecDepth 20000 in
theorem ggL_law_X12_last : GoodIn wsL_law wsX12_last := goodIn_r _ [838, 248, 190, 823, 824, 825, 5, 826, 159, 247, 186, 185, 827, 828, 829, 830, 163, 184, 188, 1028, 1029, 1030, 1031, 1032, 1033, 1034, 1035, 1036, 1037, 1038, 1039, 1040, 1041, 1042, 1043, 1044, 1045, 1046, 1047, 1048, 1049, 1050, 1051, 1052, 1053, 1054, 1055, 1056, 1057, 1058, 1059, 1060, 1061, 1062, 1063, 1064, 1065, 1066, 1067, 1068, 1069, 1070, 1071, 1072, 1073, 1074, 1075, 1076, 1077, 1078, 1079, 1080] rfl (by decide +kernel)
set_option maxRecDepth 20000 in
theorem gL_law_X12_last : GoodIn wsL_law (wsV RL 100 RX12 yX12_last wsX12_last) := goodIn_app (goodIn_of _ (by decide +kernel)) ggL_law_X12_last
set_option maxRecDepth 20000 in
theorem ggL_law_X11_margin : GoodIn wsL_law wsX11_margin := goodIn_r _ [842, 40, 208, 209, 2, 210, 1020, 1021, 1022, 1023, 1024, 1025, 1026, 1027, 1105, 1106, 1107, 1108, 1109] rfl (by decide +kernel)
set_option maxRecDepth 20000 in
theorem gL_law_X11_margin : GoodIn wsL_law (wsV RL 101 RX11 yX11_margin wsX11_margin) := goodIn_app (goodIn_of _ (by decide +kernel)) ggL_law_X11_margin
set_option maxRecDepth 20000 in
theorem ggL_law_X12_margin : GoodIn wsL_law wsX12_margin := goodIn_r _ [846, 847, 190, 249, 250, 5, 251, 1028, 1029, 1030, 1031, 1032, 1033, 1034, 1035, 1036, 1037, 1038, 1039, 1040, 1041, 1042, 1043, 1044, 1045, 1046, 1047, 1048, 1049, 1050, 1051, 1052, 1053, 1054, 1055, 1056, 1057, 1058, 1059, 1060, 1061, 1062, 1063, 1064, 1065, 1066, 1067, 1068, 1069, 1070, 1071, 1072, 1073, 1074, 1075, 1076, 1077, 1078, 1079, 1080] rfl (by decide +kernel)
set_option maxRecDepth 20000 in
theorem gL_law_X12_margin : GoodIn wsL_law (wsV RL 104 RX12 yX12_margin wsX12_margin) := goodIn_app (goodIn_of _ (by decide +kernel)) ggL_law_X12_margin
set_option maxRecDepth 20000 in
theorem ggL_law_X11_colour : GoodIn wsL_law wsX11_colour := goodIn_r _ [851, 40, 211, 212, 213, 39, 214, 124, 787, 788, 789, 790, 717, 718, 719, 720, 118, 121, 791, 792, 793, 120, 794, 130, 133, 795, 796, 797, 31, 798, 100, 799, 208, 209, 2, 210, 852, 853, 854, 855, 856, 857, 858, 1020, 1021, 1022, 1023, 1024, 1025, 1026, 1027, 1105, 1106, 1107, 1108, 1109, 1120, 1121, 1122, 1123, 1124, 1096, 1097, 1098] rfl (by decide +kernel)
set_option maxRecDepth 20000 in
theorem gL_law_X11_colour : GoodIn wsL_law (wsV RL 105 RX11 yX11_colour wsX11_colour) := goodIn_app (goodIn_of _ (by decide +kernel)) ggL_law_X11_colour
set_option maxRecDepth 20000 in
theorem ggL_law_X12_colour : GoodIn wsL_law wsX12_colour := goodIn_r _ [862, 247, 185, 187, 186, 863, 801, 802, 5, 803, 249, 250, 251, 1028, 1029, 1030, 1031, 1032, 1033, 1034, 1035, 1036, 1037, 1038, 1039, 1040, 1041, 1042, 1043, 1044, 1045, 1046, 1047, 1048, 1049, 1050, 1051, 1052, 1053, 1054, 1055, 1056, 1057, 1058, 1059, 1060, 1061, 1062, 1063, 1064, 1065, 1066, 1067, 1068, 1069, 1070, 1071, 1072, 1073, 1074, 1075, 1076, 1077, 1078, 1079, 1080] rfl (by decide +kernel)
set_option maxRecDepth 20000 in
theorem gL_law_X12_colour : GoodIn wsL_law (wsV RL 108 RX12 yX12_colour wsX12_colour) := goodIn_app (goodIn_of _ (by decide +kernel)) ggL_law_X12_colour
set_option maxRecDepth 20000 in
theorem ggL_law_X11_unclean : GoodIn wsL_law wsX11_unclean := goodIn_r _ [867, 40, 24, 211, 212, 213, 39, 214, 124, 868, 718, 719, 720, 118, 121, 641, 642, 643, 31, 644, 99, 645, 551, 552, 553, 98, 537, 307, 308, 50, 309, 60, 646, 565, 566, 567, 568, 378, 379, 380, 569, 476, 477, 100, 570, 571, 572, 573, 574, 575, 576, 577, 578, 579, 580, 581, 582, 583, 23, 584, 647, 648, 649, 650, 651, 617, 618, 619, 620, 621, 622, 623, 83, 84, 85, 624, 1020, 1021, 1022, 1023, 1024, 1025, 1026, 1027, 1120, 1121, 1122, 1123, 1124, 1105, 1106, 1107, 1108, 1109, 1096, 1097, 1098, 1089, 1090, 1091, 1092, 1117] rfl (by decide +kernel)
set_option maxRecDepth 20000 in
theorem gL_law_X11_unclean : GoodIn wsL_law (wsV RL 109 RX11 yX11_unclean wsX11_unclean) := goodIn_app (goodIn_of _ (by decide +kernel)) ggL_law_X11_unclean
set_option maxRecDepth 20000 in
theorem ggL_law_X12_unclean : GoodIn wsL_law wsX12_unclean := goodIn_r _ [872, 247, 733, 734, 735, 5, 736, 184, 185, 510, 511, 512, 513, 248, 160, 174, 175, 167, 157, 161, 168, 158, 162, 169, 163, 170, 171, 172, 173, 514, 515, 516, 517, 177, 178, 518, 179, 180, 181, 182, 414, 415, 416, 519, 520, 521, 522, 523, 524, 656, 657, 658, 659, 629, 630, 631, 632, 445, 443, 444, 593, 594, 595, 596, 597, 598, 599, 600, 601, 602, 603, 604, 609, 610, 611, 589, 590, 591, 592, 165, 605, 606, 607, 608, 1028, 1029, 1030, 1031, 1032, 1033, 1034, 1035, 1036, 1037, 1038, 1039, 1040, 1041, 1042, 1043, 1044, 1045, 1046, 1047, 1048, 1049, 1050, 1051, 1052, 1053, 1054, 1055, 1056, 1057, 1058, 1059, 1060, 1061, 1062, 1063, 1064, 1065, 1066, 1067, 1068, 1069, 1070, 1071, 1072, 1073, 1074, 1075, 1076, 1077, 1078, 1079, 1080] rfl (by decide +kernel)
set_option maxRecDepth 20000 in
theorem gL_law_X12_unclean : GoodIn wsL_law (wsV RL 112 RX12 yX12_unclean wsX12_unclean) := goodIn_app (goodIn_of _ (by decide +kernel)) ggL_law_X12_unclean
set_option maxRecDepth 20000 in
theorem ggL_law_X11_fails : GoodIn wsL_law wsX11_fails := goodIn_r _ [876, 40, 745, 746, 747, 2, 748, 20, 219, 220, 221, 19, 222, 68, 69, 70, 389, 390, 391, 67, 392, 77, 749, 750, 751, 39, 752, 124, 208, 209, 210, 877, 878, 879, 880, 868, 718, 719, 720, 118, 121, 753, 754, 755, 756, 717, 757, 534, 535, 31, 536, 98, 537, 307, 308, 50, 309, 60, 393, 394, 395, 396, 76, 385, 215, 216, 217, 218, 223, 224, 225, 226, 1020, 1021, 1022, 1023, 1024, 1025, 1026, 1027, 1085, 1086, 1087, 1088, 1118, 1119, 1105, 1106, 1107, 1108, 1109, 1120, 1121, 1122, 1123, 1124, 1096, 1097, 1098, 1117] rfl (by decide +kernel)
set_option maxRecDepth 20000 in
theorem gL_law_X11_fails : GoodIn wsL_law (wsV RL 113 RX11 yX11_fails wsX11_fails) := goodIn_app (goodIn_of _ (by decide +kernel)) ggL_law_X11_fails
set_option maxRecDepth 20000 in
theorem ggL_law_X12_fails : GoodIn wsL_law wsX12_fails := goodIn_r _ [884, 248, 762, 763, 764, 5, 765, 766, 767, 768, 769, 247, 249, 250, 251, 885, 886, 887, 888, 164, 184, 188, 1028, 1029, 1030, 1031, 1032, 1033, 1034, 1035, 1036, 1037, 1038, 1039, 1040, 1041, 1042, 1043, 1044, 1045, 1046, 1047, 1048, 1049, 1050, 1051, 1052, 1053, 1054, 1055, 1056, 1057, 1058, 1059, 1060, 1061, 1062, 1063, 1064, 1065, 1066, 1067, 1068, 1069, 1070, 1071, 1072, 1073, 1074, 1075, 1076, 1077, 1078, 1079, 1080] rfl (by decide +kernel)
set_option maxRecDepth 20000 in
theorem gL_law_X12_fails : GoodIn wsL_law (wsV RL 116 RX12 yX12_fails wsX12_fails) := goodIn_app (goodIn_of _ (by decide +kernel)) ggL_law_X12_fails
set_option maxRecDepth 20000 in
theorem ggL_law_X11_cut : GoodIn wsL_law wsX11_cut := goodIn_r _ [892, 40, 211, 212, 213, 39, 214, 124, 893, 894, 895, 896, 1020, 1021, 1022, 1023, 1024, 1025, 1026, 1027, 1105, 1106, 1107, 1108, 1109] rfl (by decide +kernel)
set_option maxRecDepth 20000 in
theorem gL_law_X11_cut : GoodIn wsL_law (wsV RL 117 RX11 yX11_cut wsX11_cut) := goodIn_app (goodIn_of _ (by decide +kernel)) ggL_law_X11_cut
set_option maxRecDepth 20000 in
theorem ggL_law_X12_cut : GoodIn wsL_law wsX12_cut := goodIn_r _ [900, 247, 1028, 1029, 1030, 1031, 1032, 1033, 1034, 1035, 1036, 1037, 1038, 1039, 1040, 1041, 1042, 1043, 1044, 1045, 1046, 1047, 1048, 1049, 1050, 1051, 1052, 1053, 1054, 1055, 1056, 1057, 1058, 1059, 1060, 1061, 1062, 1063, 1064, 1065, 1066, 1067, 1068, 1069, 1070, 1071, 1072, 1073, 1074, 1075, 1076, 1077, 1078, 1079, 1080] rfl (by decide +kernel)
set_option maxRecDepth 20000 in
theorem gL_law_X12_cut : GoodIn wsL_law (wsV RL 120 RX12 yX12_cut wsX12_cut) := goodIn_app (goodIn_of _ (by decide +kernel)) ggL_law_X12_cut
set_option maxRecDepth 20000 in
theorem ggL_law_X11_mark : GoodIn wsL_law wsX11_mark := goodIn_r _ [904, 44, 208, 209, 2, 210, 905, 906, 907, 43, 908, 143, 909, 307, 308, 50, 309, 60, 910, 911, 912, 913, 141, 205, 206, 207, 914, 915, 916, 917, 145, 918, 919, 920, 921, 142, 922, 232, 233, 234, 1020, 1021, 1022, 1023, 1024, 1025, 1026, 1027, 1110, 1111, 1112, 1113, 1114, 1115, 1116, 1117] rfl (by decide +kernel)
set_option maxRecDepth 20000 in
theorem gL_law_X11_mark : GoodIn wsL_law (wsV RL 121 RX11 yX11_mark wsX11_mark) := goodIn_app (goodIn_of _ (by decide +kernel)) ggL_law_X11_mark
set_option maxRecDepth 20000 in
theorem ggL_law_X12_mark : GoodIn wsL_law wsX12_mark := goodIn_r _ [926, 559, 927, 244, 245, 928, 191, 192, 193, 194, 195, 249, 250, 5, 251, 1028, 1029, 1030, 1031, 1032, 1033, 1034, 1035, 1036, 1037, 1038, 1039, 1040, 1041, 1042, 1043, 1044, 1045, 1046, 1047, 1048, 1049, 1050, 1051, 1052, 1053, 1054, 1055, 1056, 1057, 1058, 1059, 1060, 1061, 1062, 1063, 1064, 1065, 1066, 1067, 1068, 1069, 1070, 1071, 1072, 1073, 1074, 1075, 1076, 1077, 1078, 1079, 1080] rfl (by decide +kernel)
set_option maxRecDepth 20000 in
theorem gL_law_X12_mark : GoodIn wsL_law (wsV RL 125 RX12 yX12_mark wsX12_mark) := goodIn_app (goodIn_of _ (by decide +kernel)) ggL_law_X12_mark
set_option maxRecDepth 20000 in
theorem ggL_law_X11_first : GoodIn wsL_law wsX11_first := goodIn_r _ [932, 44, 24, 933, 934, 935, 43, 936, 144, 142, 145, 909, 307, 308, 50, 309, 60, 922, 232, 233, 234, 937, 938, 939, 940, 941, 378, 379, 380, 910, 911, 912, 913, 141, 942, 943, 944, 945, 146, 147, 946, 947, 948, 949, 950, 951, 952, 953, 954, 955, 956, 957, 958, 621, 622, 23, 623, 83, 84, 85, 624, 583, 584, 959, 960, 961, 962, 963, 964, 965, 966, 967, 968, 969, 970, 971, 1020, 1021, 1022, 1023, 1024, 1025, 1026, 1027, 1110, 1111, 1112, 1113, 1114, 1115, 1116, 1117, 1089, 1090, 1091, 1092] rfl (by decide +kernel)
set_option maxRecDepth 20000 in
theorem gL_law_X11_first : GoodIn wsL_law (wsV RL 126 RX11 yX11_first wsX11_first) := goodIn_app (goodIn_of _ (by decide +kernel)) ggL_law_X11_first
set_option maxRecDepth 20000 in
theorem ggL_law_X12_first : GoodIn wsL_law wsX12_first := goodIn_r _ [975, 928, 192, 976, 977, 978, 5, 979, 196, 197, 198, 199, 980, 981, 982, 983, 191, 984, 985, 986, 987, 445, 193, 443, 194, 444, 609, 610, 611, 988, 989, 990, 991, 195, 165, 1028, 1029, 1030, 1031, 1032, 1033, 1034, 1035, 1036, 1037, 1038, 1039, 1040, 1041, 1042, 1043, 1044, 1045, 1046, 1047, 1048, 1049, 1050, 1051, 1052, 1053, 1054, 1055, 1056, 1057, 1058, 1059, 1060, 1061, 1062, 1063, 1064, 1065, 1066, 1067, 1068, 1069, 1070, 1071, 1072, 1073, 1074, 1075, 1076, 1077, 1078, 1079, 1080] rfl (by decide +kernel)
set_option maxRecDepth 20000 in
theorem gL_law_X12_first : GoodIn wsL_law (wsV RL 129 RX12 yX12_first wsX12_first) := goodIn_app (goodIn_of _ (by decide +kernel)) ggL_law_X12_first
set_option maxRecDepth 20000 in
theorem ggL_law_X11_who : GoodIn wsL_law wsX11_who := goodIn_r _ [995, 44, 1020, 1021, 1022, 1023, 1024, 1025, 1026, 1027, 1110, 1111, 1112, 1113, 1114, 1115, 1116] rfl (by decide +kernel)
set_option maxRecDepth 20000 in
theorem gL_law_X11_who : GoodIn wsL_law (wsV RL 130 RX11 yX11_who wsX11_who) := goodIn_app (goodIn_of _ (by decide +kernel)) ggL_law_X11_who
set_option maxRecDepth 20000 in
theorem ggL_law_X12_who : GoodIn wsL_law wsX12_who := goodIn_r _ [999, 198, 199, 1028, 1029, 1030, 1031, 1032, 1033, 1034, 1035, 1036, 1037, 1038, 1039, 1040, 1041, 1042, 1043, 1044, 1045, 1046, 1047, 1048, 1049, 1050, 1051, 1052, 1053, 1054, 1055, 1056, 1057, 1058, 1059, 1060, 1061, 1062, 1063, 1064, 1065, 1066, 1067, 1068, 1069, 1070, 1071, 1072, 1073, 1074, 1075, 1076, 1077, 1078, 1079, 1080] rfl (by decide +kernel)
set_option maxRecDepth 20000 in
theorem gL_law_X12_who : GoodIn wsL_law (wsV RL 133 RX12 yX12_who wsX12_who) := goodIn_app (goodIn_of _ (by decide +kernel)) ggL_law_X12_who
set_option maxRecDepth 20000 in
theorem ggL_law_X11_wipe : GoodIn wsL_law wsX11_wipe := goodIn_r _ [1003, 44, 914, 915, 916, 43, 917, 145, 1004, 1005, 1006, 1007, 142, 143, 149, 150, 151, 50, 152, 60, 1020, 1021, 1022, 1023, 1024, 1025, 1026, 1027, 1110, 1111, 1112, 1113, 1114, 1115, 1116, 1117] rfl (by decide +kernel)
set_option maxRecDepth 20000 in
theorem gL_law_X11_wipe : GoodIn wsL_law (wsV RL 134 RX11 yX11_wipe wsX11_wipe) := goodIn_app (goodIn_of _ (by decide +kernel)) ggL_law_X11_wipe
set_option maxRecDepth 20000 in
theorem ggL_law_X12_wipe : GoodIn wsL_law wsX12_wipe := goodIn_r _ [1011, 928, 1028, 1029, 1030, 1031, 1032, 1033, 1034, 1035, 1036, 1037, 1038, 1039, 1040, 1041, 1042, 1043, 1044, 1045, 1046, 1047, 1048, 1049, 1050, 1051, 1052, 1053, 1054, 1055, 1056, 1057, 1058, 1059, 1060, 1061, 1062, 1063, 1064, 1065, 1066, 1067, 1068, 1069, 1070, 1071, 1072, 1073, 1074, 1075, 1076, 1077, 1078, 1079, 1080] rfl (by decide +kernel)
set_option maxRecDepth 20000 in
theorem gL_law_X12_wipe : GoodIn wsL_law (wsV RL 137 RX12 yX12_wipe wsX12_wipe) := goodIn_app (goodIn_of _ (by decide +kernel)) ggL_law_X12_wipe
set_option maxRecDepth 20000 in
theorem ggL_law_X11_count : GoodIn wsL_law wsX11_count := goodIn_r _ [1015, 20, 40, 44, 16, 24, 215, 216, 217, 2, 218, 219, 220, 221, 19, 222, 68, 69, 70, 223, 224, 225, 67, 226, 77, 277, 278, 279, 280, 71, 211, 212, 213, 39, 214, 124, 914, 915, 916, 43, 917, 145, 256, 257, 258, 15, 259, 52, 1020, 1021, 1022, 1023, 1024, 1025, 1026, 1027, 1089, 1090, 1091, 1092, 1105, 1106, 1107, 1108, 1109, 1085, 1086, 1087, 1088, 1118, 1119, 1110, 1111, 1112, 1113, 1114, 1115, 1116, 1081, 1082, 1083, 1084] rfl (by decide +kernel)
set_option maxRecDepth 20000 in
theorem gL_law_X11_count : GoodIn wsL_law (wsV RL 138 RX11 yX11_count wsX11_count) := goodIn_app (goodIn_of _ (by decide +kernel)) ggL_law_X11_count
set_option maxRecDepth 20000 in
theorem ggL_law_X12_count : GoodIn wsL_law wsX12_count := goodIn_r _ [1019, 248, 334, 247, 928, 271, 165, 190, 1028, 1029, 1030, 1031, 1032, 1033, 1034, 1035, 1036, 1037, 1038, 1039, 1040, 1041, 1042, 1043, 1044, 1045, 1046, 1047, 1048, 1049, 1050, 1051, 1052, 1053, 1054, 1055, 1056, 1057, 1058, 1059, 1060, 1061, 1062, 1063, 1064, 1065, 1066, 1067, 1068, 1069, 1070, 1071, 1072, 1073, 1074, 1075, 1076, 1077, 1078, 1079, 1080] rfl (by decide +kernel)
set_option maxRecDepth 20000 in
theorem gL_law_X12_count : GoodIn wsL_law (wsV RL 141 RX12 yX12_count wsX12_count) := goodIn_app (goodIn_of _ (by decide +kernel)) ggL_law_X12_count

