theorem inlX0 : ∀ w ∈ wsX00, w ∈ wsL_law := fun _ h => List.mem_append_left _ (List.mem_append_left _ (List.mem_append_left _ (List.mem_append_left _ (List.mem_append_left _ (List.mem_append_left _ (List.mem_append_left _ (List.mem_append_left _ (List.mem_append_left _ (List.mem_append_right _ h)))))))))
theorem inlX1 : ∀ w ∈ wsX10, w ∈ wsL_law := fun _ h => List.mem_append_left _ (List.mem_append_left _ (List.mem_append_left _ (List.mem_append_left _ (List.mem_append_right _ h))))
theorem inlX2 : ∀ w ∈ wsX20, w ∈ wsL_law := fun _ h => List.mem_append_left _ (List.mem_append_left _ (List.mem_append_left _ (List.mem_append_left _ (List.mem_append_left _ (List.mem_append_left _ (List.mem_append_left _ (List.mem_append_left _ (List.mem_append_left _ (List.mem_append_left _ (List.mem_append_right _ h))))))))))
theorem inlX3 : ∀ w ∈ wsX30, w ∈ wsL_law := fun _ h => List.mem_append_left _ (List.mem_append_left _ (List.mem_append_left _ (List.mem_append_left _ (List.mem_append_left _ (List.mem_append_left _ (List.mem_append_right _ h))))))
theorem inlX4 : ∀ w ∈ wsX40, w ∈ wsL_law := fun _ h => List.mem_append_left _ (List.mem_append_left _ (List.mem_append_left _ (List.mem_append_left _ (List.mem_append_left _ (List.mem_append_left _ (List.mem_append_left _ (List.mem_append_right _ h)))))))
theorem inlX5 : ∀ w ∈ wsX50, w ∈ wsL_law := fun _ h => List.mem_append_left _ (List.mem_append_left _ (List.mem_append_right _ h))
theorem inlX6 : ∀ w ∈ wsX60, w ∈ wsL_law := fun _ h => List.mem_append_left _ (List.mem_append_left _ (List.mem_append_left _ (List.mem_append_left _ (List.mem_append_left _ (List.mem_append_left _ (List.mem_append_left _ (List.mem_append_left _ (List.mem_append_right _ h))))))))
theorem inlX7 : ∀ w ∈ wsX70, w ∈ wsL_law := fun _ h => List.mem_append_left _ (List.mem_append_left _ (List.mem_append_left _ (List.mem_append_right _ h)))
theorem inlX8 : ∀ w ∈ wsX80, w ∈ wsL_law := fun _ h => List.mem_append_left _ (List.mem_append_right _ h)
theorem inlX9 : ∀ w ∈ wsX90, w ∈ wsL_law := fun _ h => List.mem_append_left _ (List.mem_append_left _ (List.mem_append_left _ (List.mem_append_left _ (List.mem_append_left _ (List.mem_append_right _ h)))))
theorem inlX10 : ∀ w ∈ wsX100, w ∈ wsL_law := fun _ h => List.mem_append_left _ (List.mem_append_left _ (List.mem_append_left _ (List.mem_append_left _ (List.mem_append_left _ (List.mem_append_left _ (List.mem_append_left _ (List.mem_append_left _ (List.mem_append_left _ (List.mem_append_left _ (List.mem_append_left _ (List.mem_append_right _ h)))))))))))
theorem inlX11 : ∀ w ∈ wsX110, w ∈ wsL_law := fun _ h => List.mem_append_left _ (List.mem_append_left _ (List.mem_append_left _ (List.mem_append_left _ (List.mem_append_left _ (List.mem_append_left _ (List.mem_append_left _ (List.mem_append_left _ (List.mem_append_left _ (List.mem_append_left _ (List.mem_append_left _ (List.mem_append_left _ (List.mem_append_left _ (List.mem_append_right _ h)))))))))))))
theorem inlX12 : ∀ w ∈ wsX120, w ∈ wsL_law := fun _ h => List.mem_append_left _ (List.mem_append_left _ (List.mem_append_left _ (List.mem_append_left _ (List.mem_append_left _ (List.mem_append_left _ (List.mem_append_left _ (List.mem_append_left _ (List.mem_append_left _ (List.mem_append_left _ (List.mem_append_left _ (List.mem_append_left _ (List.mem_append_right _ h))))))))))))
set_option maxRecDepth 20000 in
theorem ggL_law_X11_init : GoodIn wsL_law wsX11_init := goodIn_r _ [9, 10, 11, 12, 13, 14, 15, 16, 17, 18, 19, 20, 21, 22, 23, 24, 25, 26, 27, 28, 29, 30, 31, 32, 33, 34, 35, 36, 37, 38, 39, 40, 41, 42, 43, 44, 45, 46, 47, 48, 49, 50, 51, 52, 53, 54, 55, 56, 57, 58, 59, 60, 61, 62, 63, 64, 65, 66, 67, 68, 69, 70, 71, 72, 73, 74, 75, 76, 77, 78, 79, 80, 81, 82, 83, 84, 85, 86, 87, 88, 89, 90, 91, 92, 93, 94, 95, 96, 97, 98, 99, 100, 101, 102, 103, 104, 105, 106, 107, 108, 109, 110, 111, 112, 113, 114, 115, 116, 117, 118, 119, 120, 121, 122, 123, 124, 125, 126, 127, 128, 129, 130, 131, 132, 133, 134, 135, 136, 137, 138, 139, 140, 141, 142, 143, 144, 145, 146, 147, 148, 149, 150, 151, 152, 1077, 1078, 1079, 1080, 1016, 1017, 1018, 1019, 1020, 1021, 1022, 1023, 1081, 1082, 1083, 1084, 1085, 1086, 1087, 1088, 1089, 1090, 1091, 1092, 1093, 1094, 1095, 1096, 1097, 1098, 1099, 1100, 1101, 1102, 1103, 1104, 1105, 1106, 1107, 1108, 1109, 1110, 1111, 1112, 1113, 1114, 1115, 1116, 1117, 1118, 1119, 1120] rfl (by decide +kernel)
set_option maxRecDepth 20000 in
theorem gL_law_X11_init : GoodIn wsL_law (wsX11_init) := ggL_law_X11_init
set_option maxRecDepth 20000 in
theorem ggL_law_X12_init : GoodIn wsL_law wsX12_init := goodIn_r _ [155, 156, 11, 12, 59, 157, 158, 159, 160, 161, 162, 163, 164, 165, 166, 167, 168, 169, 170, 171, 172, 173, 174, 175, 176, 177, 178, 179, 180, 181, 182, 183, 184, 185, 186, 187, 188, 189, 190, 191, 192, 193, 194, 195, 196, 197, 198, 199, 1024, 1025, 1026, 1027, 1028, 1029, 1030, 1031, 1032, 1033, 1034, 1035, 1036, 1037, 1038, 1039, 1040, 1041, 1042, 1043, 1044, 1045, 1046, 1047, 1048, 1049, 1050, 1051, 1052, 1053, 1054, 1055, 1056, 1057, 1058, 1059, 1060, 1061, 1062, 1063, 1064, 1065, 1066, 1067, 1068, 1069, 1070, 1071, 1072, 1073, 1074, 1075, 1076] rfl (by decide +kernel)
set_option maxRecDepth 20000 in
theorem gL_law_X12_init : GoodIn wsL_law (wsX12_init) := ggL_law_X12_init
set_option maxRecDepth 20000 in
theorem ggL_law_X11_flyer : GoodIn wsL_law wsX11_flyer := goodIn_r _ [203, 204, 40, 20, 205, 206, 2, 207, 208, 209, 210, 211, 212, 213, 39, 214, 124, 215, 216, 217, 218, 219, 220, 221, 19, 222, 68, 69, 70, 223, 224, 225, 67, 226, 77, 227, 228, 229, 230, 76, 231, 232, 233, 50, 234, 60, 235, 236, 237, 238, 123, 239, 1016, 1017, 1018, 1019, 1020, 1021, 1022, 1023, 1101, 1102, 1103, 1104, 1105, 1081, 1082, 1083, 1084, 1114, 1115, 1113] rfl (by decide +kernel)
set_option maxRecDepth 20000 in
theorem gL_law_X11_flyer : GoodIn wsL_law (wsV RL 13 RX11 yX11_flyer wsX11_flyer) := goodIn_app (goodIn_of _ (by decide +kernel)) ggL_law_X11_flyer
set_option maxRecDepth 20000 in
theorem ggL_law_X12_flyer : GoodIn wsL_law wsX12_flyer := goodIn_r _ [243, 244, 245, 246, 247, 248, 157, 158, 159, 249, 250, 5, 251, 1024, 1025, 1026, 1027, 1028, 1029, 1030, 1031, 1032, 1033, 1034, 1035, 1036, 1037, 1038, 1039, 1040, 1041, 1042, 1043, 1044, 1045, 1046, 1047, 1048, 1049, 1050, 1051, 1052, 1053, 1054, 1055, 1056, 1057, 1058, 1059, 1060, 1061, 1062, 1063, 1064, 1065, 1066, 1067, 1068, 1069, 1070, 1071, 1072, 1073, 1074, 1075, 1076] rfl (by decide +kernel)
set_option maxRecDepth 20000 in
theorem gL_law_X12_flyer : GoodIn wsL_law (wsV RL 17 RX12 yX12_flyer wsX12_flyer) := goodIn_app (goodIn_of _ (by decide +kernel)) ggL_law_X12_flyer
set_option maxRecDepth 20000 in
theorem ggL_law_X11_feed : GoodIn wsL_law wsX11_feed := goodIn_r _ [255, 16, 208, 209, 2, 210, 256, 257, 258, 15, 259, 52, 260, 261, 262, 263, 51, 264, 265, 232, 233, 50, 234, 60, 1016, 1017, 1018, 1019, 1020, 1021, 1022, 1023, 1077, 1078, 1079, 1080, 1113] rfl (by decide +kernel)
set_option maxRecDepth 20000 in
theorem gL_law_X11_feed : GoodIn wsL_law (wsV RL 20 RX11 yX11_feed wsX11_feed) := goodIn_app (goodIn_of _ (by decide +kernel)) ggL_law_X11_feed
set_option maxRecDepth 20000 in
theorem ggL_law_X12_feed : GoodIn wsL_law wsX12_feed := goodIn_r _ [269, 270, 271, 166, 272, 249, 250, 5, 251, 1024, 1025, 1026, 1027, 1028, 1029, 1030, 1031, 1032, 1033, 1034, 1035, 1036, 1037, 1038, 1039, 1040, 1041, 1042, 1043, 1044, 1045, 1046, 1047, 1048, 1049, 1050, 1051, 1052, 1053, 1054, 1055, 1056, 1057, 1058, 1059, 1060, 1061, 1062, 1063, 1064, 1065, 1066, 1067, 1068, 1069, 1070, 1071, 1072, 1073, 1074, 1075, 1076] rfl (by decide +kernel)
set_option maxRecDepth 20000 in
theorem gL_law_X12_feed : GoodIn wsL_law (wsV RL 24 RX12 yX12_feed wsX12_feed) := goodIn_app (goodIn_of _ (by decide +kernel)) ggL_law_X12_feed
set_option maxRecDepth 20000 in
theorem ggL_law_X11_figure : GoodIn wsL_law wsX11_figure := goodIn_r _ [276, 20, 16, 277, 278, 279, 19, 280, 71, 281, 282, 283, 284, 285, 220, 221, 222, 68, 69, 70, 286, 287, 288, 15, 289, 53, 54, 52, 290, 291, 292, 67, 293, 77, 294, 295, 296, 297, 298, 299, 300, 301, 302, 303, 304, 305, 51, 306, 307, 308, 50, 309, 60, 310, 311, 312, 313, 314, 315, 316, 317, 318, 319, 320, 321, 228, 229, 230, 76, 231, 232, 233, 234, 322, 323, 324, 325, 326, 327, 328, 329, 1016, 1017, 1018, 1019, 1020, 1021, 1022, 1023, 1081, 1082, 1083, 1084, 1077, 1078, 1079, 1080, 1114, 1115, 1113] rfl (by decide +kernel)
set_option maxRecDepth 20000 in
theorem gL_law_X11_figure : GoodIn wsL_law (wsV RL 25 RX11 yX11_figure wsX11_figure) := goodIn_app (goodIn_of _ (by decide +kernel)) ggL_law_X11_figure
set_option maxRecDepth 20000 in
theorem ggL_law_X12_figure : GoodIn wsL_law wsX12_figure := goodIn_r _ [333, 334, 271, 335, 160, 336, 337, 338, 5, 339, 340, 341, 342, 343, 161, 344, 162, 163, 164, 345, 346, 347, 348, 349, 350, 351, 352, 353, 354, 355, 356, 166, 357, 358, 359, 1024, 1025, 1026, 1027, 1028, 1029, 1030, 1031, 1032, 1033, 1034, 1035, 1036, 1037, 1038, 1039, 1040, 1041, 1042, 1043, 1044, 1045, 1046, 1047, 1048, 1049, 1050, 1051, 1052, 1053, 1054, 1055, 1056, 1057, 1058, 1059, 1060, 1061, 1062, 1063, 1064, 1065, 1066, 1067, 1068, 1069, 1070, 1071, 1072, 1073, 1074, 1075, 1076] rfl (by decide +kernel)
set_option maxRecDepth 20000 in
theorem gL_law_X12_figure : GoodIn wsL_law (wsV RL 29 RX12 yX12_figure wsX12_figure) := goodIn_app (goodIn_of _ (by decide +kernel)) ggL_law_X12_figure
set_option maxRecDepth 20000 in
theorem ggL_law_X11_point : GoodIn wsL_law wsX11_point := goodIn_r _ [363, 20, 24, 364, 365, 366, 19, 367, 71, 219, 220, 221, 222, 68, 69, 70, 223, 224, 225, 67, 226, 77, 368, 369, 370, 23, 371, 82, 372, 373, 374, 375, 376, 377, 378, 379, 380, 381, 382, 383, 384, 76, 385, 307, 308, 50, 309, 60, 386, 387, 2, 388, 389, 390, 391, 392, 208, 209, 210, 393, 394, 395, 396, 1016, 1017, 1018, 1019, 1020, 1021, 1022, 1023, 1081, 1082, 1083, 1084, 1114, 1115, 1085, 1086, 1087, 1088, 1113] rfl (by decide +kernel)
set_option maxRecDepth 20000 in
theorem gL_law_X11_point : GoodIn wsL_law (wsV RL 30 RX11 yX11_point wsX11_point) := goodIn_app (goodIn_of _ (by decide +kernel)) ggL_law_X11_point
set_option maxRecDepth 20000 in
theorem ggL_law_X12_point_ : GoodIn wsL_law wsX12_point_ := goodIn_r _ [400, 401, 160, 165, 161, 162, 163, 164, 402, 403, 404, 5, 405, 334, 249, 250, 251, 406, 407, 408, 409, 410, 411, 412, 413, 414, 415, 416, 1024, 1025, 1026, 1027, 1028, 1029, 1030, 1031, 1032, 1033, 1034, 1035, 1036, 1037, 1038, 1039, 1040, 1041, 1042, 1043, 1044, 1045, 1046, 1047, 1048, 1049, 1050, 1051, 1052, 1053, 1054, 1055, 1056, 1057, 1058, 1059, 1060, 1061, 1062, 1063, 1064, 1065, 1066, 1067, 1068, 1069, 1070, 1071, 1072, 1073, 1074, 1075, 1076] rfl (by decide +kernel)
set_option maxRecDepth 20000 in
theorem gL_law_X12_point_ : GoodIn wsL_law (wsV RL 33 RX12 yX12_point_ wsX12_point_) := goodIn_app (goodIn_of _ (by decide +kernel)) ggL_law_X12_point_
set_option maxRecDepth 20000 in
theorem ggL_law_X11_spread : GoodIn wsL_law wsX11_spread := goodIn_r _ [420, 20, 364, 365, 366, 19, 367, 71, 219, 220, 221, 222, 68, 69, 70, 223, 224, 225, 67, 226, 77, 421, 373, 374, 375, 376, 377, 378, 379, 380, 381, 382, 383, 384, 76, 385, 307, 308, 50, 309, 60, 1016, 1017, 1018, 1019, 1020, 1021, 1022, 1023, 1081, 1082, 1083, 1084, 1114, 1115, 1113] rfl (by decide +kernel)
set_option maxRecDepth 20000 in
theorem gL_law_X11_spread : GoodIn wsL_law (wsV RL 34 RX11 yX11_spread wsX11_spread) := goodIn_app (goodIn_of _ (by decide +kernel)) ggL_law_X11_spread
set_option maxRecDepth 20000 in
theorem ggL_law_X12_spread : GoodIn wsL_law wsX12_spread := goodIn_r _ [425, 402, 403, 404, 5, 405, 334, 406, 407, 408, 409, 160, 410, 411, 412, 413, 161, 162, 163, 414, 415, 416, 1024, 1025, 1026, 1027, 1028, 1029, 1030, 1031, 1032, 1033, 1034, 1035, 1036, 1037, 1038, 1039, 1040, 1041, 1042, 1043, 1044, 1045, 1046, 1047, 1048, 1049, 1050, 1051, 1052, 1053, 1054, 1055, 1056, 1057, 1058, 1059, 1060, 1061, 1062, 1063, 1064, 1065, 1066, 1067, 1068, 1069, 1070, 1071, 1072, 1073, 1074, 1075, 1076] rfl (by decide +kernel)
set_option maxRecDepth 20000 in
theorem gL_law_X12_spread : GoodIn wsL_law (wsV RL 38 RX12 yX12_spread wsX12_spread) := goodIn_app (goodIn_of _ (by decide +kernel)) ggL_law_X12_spread
set_option maxRecDepth 20000 in
theorem ggL_law_X11_gap : GoodIn wsL_law wsX11_gap := goodIn_r _ [429, 24, 208, 209, 2, 210, 1016, 1017, 1018, 1019, 1020, 1021, 1022, 1023, 1085, 1086, 1087, 1088] rfl (by decide +kernel)
set_option maxRecDepth 20000 in
theorem gL_law_X11_gap : GoodIn wsL_law (wsV RL 39 RX11 yX11_gap wsX11_gap) := goodIn_app (goodIn_of _ (by decide +kernel)) ggL_law_X11_gap
set_option maxRecDepth 20000 in
theorem ggL_law_X12_gap : GoodIn wsL_law wsX12_gap := goodIn_r _ [433, 434, 165, 249, 250, 5, 251, 1024, 1025, 1026, 1027, 1028, 1029, 1030, 1031, 1032, 1033, 1034, 1035, 1036, 1037, 1038, 1039, 1040, 1041, 1042, 1043, 1044, 1045, 1046, 1047, 1048, 1049, 1050, 1051, 1052, 1053, 1054, 1055, 1056, 1057, 1058, 1059, 1060, 1061, 1062, 1063, 1064, 1065, 1066, 1067, 1068, 1069, 1070, 1071, 1072, 1073, 1074, 1075, 1076] rfl (by decide +kernel)
set_option maxRecDepth 20000 in
theorem gL_law_X12_gap : GoodIn wsL_law (wsV RL 42 RX12 yX12_gap wsX12_gap) := goodIn_app (goodIn_of _ (by decide +kernel)) ggL_law_X12_gap
set_option maxRecDepth 20000 in
theorem ggL_law_X11_zone : GoodIn wsL_law wsX11_zone := goodIn_r _ [438, 24, 205, 206, 2, 207, 208, 209, 210, 1016, 1017, 1018, 1019, 1020, 1021, 1022, 1023, 1085, 1086, 1087, 1088] rfl (by decide +kernel)
set_option maxRecDepth 20000 in
theorem gL_law_X11_zone : GoodIn wsL_law (wsV RL 43 RX11 yX11_zone wsX11_zone) := goodIn_app (goodIn_of _ (by decide +kernel)) ggL_law_X11_zone
set_option maxRecDepth 20000 in
theorem ggL_law_X12_zone : GoodIn wsL_law wsX12_zone := goodIn_r _ [442, 244, 245, 443, 444, 445, 249, 250, 5, 251, 1024, 1025, 1026, 1027, 1028, 1029, 1030, 1031, 1032, 1033, 1034, 1035, 1036, 1037, 1038, 1039, 1040, 1041, 1042, 1043, 1044, 1045, 1046, 1047, 1048, 1049, 1050, 1051, 1052, 1053, 1054, 1055, 1056, 1057, 1058, 1059, 1060, 1061, 1062, 1063, 1064, 1065, 1066, 1067, 1068, 1069, 1070, 1071, 1072, 1073, 1074, 1075, 1076] rfl (by decide +kernel)
set_option maxRecDepth 20000 in
theorem gL_law_X12_zone : GoodIn wsL_law (wsV RL 46 RX12 yX12_zone wsX12_zone) := goodIn_app (goodIn_of _ (by decide +kernel)) ggL_law_X12_zone
set_option maxRecDepth 20000 in
theorem ggL_law_X11_pass : GoodIn wsL_law wsX11_pass := goodIn_r _ [449, 20, 32, 28, 450, 451, 452, 2, 453, 364, 365, 366, 19, 367, 71, 208, 209, 210, 219, 220, 221, 222, 68, 69, 70, 223, 224, 225, 67, 226, 77, 454, 455, 456, 31, 457, 99, 100, 98, 458, 459, 460, 27, 461, 462, 378, 379, 380, 90, 91, 463, 464, 382, 383, 384, 76, 385, 307, 308, 50, 309, 60, 465, 232, 233, 234, 466, 467, 468, 469, 470, 471, 472, 473, 474, 475, 476, 477, 478, 479, 480, 481, 482, 483, 484, 485, 486, 487, 488, 489, 92, 490, 491, 492, 493, 494, 495, 496, 497, 498, 499, 394, 395, 396, 500, 501, 502, 503, 504, 1016, 1017, 1018, 1019, 1020, 1021, 1022, 1023, 1081, 1082, 1083, 1084, 1114, 1115, 1092, 1093, 1094, 1089, 1090, 1091, 1113] rfl (by decide +kernel)
set_option maxRecDepth 20000 in
theorem gL_law_X11_pass : GoodIn wsL_law (wsV RL 47 RX11 yX11_pass wsX11_pass) := goodIn_app (goodIn_of _ (by decide +kernel)) ggL_law_X11_pass
set_option maxRecDepth 20000 in
theorem ggL_law_X12_pass : GoodIn wsL_law wsX12_pass := goodIn_r _ [508, 509, 248, 160, 176, 179, 402, 403, 404, 5, 405, 334, 249, 250, 251, 510, 511, 512, 513, 174, 175, 167, 157, 161, 168, 158, 162, 169, 163, 170, 171, 172, 173, 514, 515, 516, 517, 177, 178, 518, 180, 181, 182, 414, 415, 416, 519, 520, 521, 522, 523, 524, 1024, 1025, 1026, 1027, 1028, 1029, 1030, 1031, 1032, 1033, 1034, 1035, 1036, 1037, 1038, 1039, 1040, 1041, 1042, 1043, 1044, 1045, 1046, 1047, 1048, 1049, 1050, 1051, 1052, 1053, 1054, 1055, 1056, 1057, 1058, 1059, 1060, 1061, 1062, 1063, 1064, 1065, 1066, 1067, 1068, 1069, 1070, 1071, 1072, 1073, 1074, 1075, 1076] rfl (by decide +kernel)
set_option maxRecDepth 20000 in
theorem gL_law_X12_pass : GoodIn wsL_law (wsV RL 50 RX12 yX12_pass wsX12_pass) := goodIn_app (goodIn_of _ (by decide +kernel)) ggL_law_X12_pass
set_option maxRecDepth 20000 in
theorem ggL_law_X11_goes : GoodIn wsL_law wsX11_goes := goodIn_r _ [528, 32, 529, 530, 531, 31, 532, 99, 533, 534, 535, 536, 98, 537, 307, 308, 50, 309, 60, 1016, 1017, 1018, 1019, 1020, 1021, 1022, 1023, 1092, 1093, 1094, 1113] rfl (by decide +kernel)
set_option maxRecDepth 20000 in
theorem gL_law_X11_goes : GoodIn wsL_law (wsV RL 51 RX11 yX11_goes wsX11_goes) := goodIn_app (goodIn_of _ (by decide +kernel)) ggL_law_X11_goes
set_option maxRecDepth 20000 in
theorem ggL_law_X12_goes : GoodIn wsL_law wsX12_goes := goodIn_r _ [541, 176, 542, 543, 544, 5, 545, 175, 1024, 1025, 1026, 1027, 1028, 1029, 1030, 1031, 1032, 1033, 1034, 1035, 1036, 1037, 1038, 1039, 1040, 1041, 1042, 1043, 1044, 1045, 1046, 1047, 1048, 1049, 1050, 1051, 1052, 1053, 1054, 1055, 1056, 1057, 1058, 1059, 1060, 1061, 1062, 1063, 1064, 1065, 1066, 1067, 1068, 1069, 1070, 1071, 1072, 1073, 1074, 1075, 1076] rfl (by decide +kernel)
set_option maxRecDepth 20000 in
theorem gL_law_X12_goes : GoodIn wsL_law (wsV RL 54 RX12 yX12_goes wsX12_goes) := goodIn_app (goodIn_of _ (by decide +kernel)) ggL_law_X12_goes
set_option maxRecDepth 20000 in
theorem ggL_law_X11_delay : GoodIn wsL_law wsX11_delay := goodIn_r _ [549, 32, 529, 530, 531, 31, 532, 99, 208, 209, 2, 210, 550, 551, 552, 553, 98, 537, 307, 308, 50, 309, 60, 554, 502, 503, 504, 500, 232, 233, 234, 1016, 1017, 1018, 1019, 1020, 1021, 1022, 1023, 1092, 1093, 1094, 1113] rfl (by decide +kernel)
set_option maxRecDepth 20000 in
theorem gL_law_X11_delay : GoodIn wsL_law (wsV RL 55 RX11 yX11_delay wsX11_delay) := goodIn_app (goodIn_of _ (by decide +kernel)) ggL_law_X11_delay
set_option maxRecDepth 20000 in
theorem ggL_law_X12_delay : GoodIn wsL_law wsX12_delay := goodIn_r _ [558, 559, 173, 542, 543, 544, 5, 545, 175, 249, 250, 251, 1024, 1025, 1026, 1027, 1028, 1029, 1030, 1031, 1032, 1033, 1034, 1035, 1036, 1037, 1038, 1039, 1040, 1041, 1042, 1043, 1044, 1045, 1046, 1047, 1048, 1049, 1050, 1051, 1052, 1053, 1054, 1055, 1056, 1057, 1058, 1059, 1060, 1061, 1062, 1063, 1064, 1065, 1066, 1067, 1068, 1069, 1070, 1071, 1072, 1073, 1074, 1075, 1076] rfl (by decide +kernel)
set_option maxRecDepth 20000 in
theorem gL_law_X12_delay : GoodIn wsL_law (wsV RL 59 RX12 yX12_delay wsX12_delay) := goodIn_app (goodIn_of _ (by decide +kernel)) ggL_law_X12_delay
set_option maxRecDepth 20000 in
theorem ggL_law_X11_clash : GoodIn wsL_law wsX11_clash := goodIn_r _ [563, 32, 24, 529, 530, 531, 31, 532, 99, 550, 551, 552, 553, 98, 537, 307, 308, 50, 309, 60, 564, 565, 566, 567, 568, 378, 379, 380, 569, 476, 477, 100, 570, 571, 572, 573, 574, 575, 576, 577, 578, 579, 23, 580, 386, 387, 2, 388, 1016, 1017, 1018, 1019, 1020, 1021, 1022, 1023, 1085, 1086, 1087, 1088, 1092, 1093, 1094, 1113] rfl (by decide +kernel)
set_option maxRecDepth 20000 in
theorem gL_law_X11_clash : GoodIn wsL_law (wsV RL 60 RX11 yX11_clash wsX11_clash) := goodIn_app (goodIn_of _ (by decide +kernel)) ggL_law_X11_clash
set_option maxRecDepth 20000 in
theorem ggL_law_X12_clash_ : GoodIn wsL_law wsX12_clash_ := goodIn_r _ [584, 174, 542, 543, 544, 5, 545, 175, 585, 586, 587, 588, 165, 589, 590, 591, 592, 167, 170, 593, 594, 595, 596, 173, 597, 598, 599, 600, 168, 171, 601, 602, 603, 604, 169, 172, 605, 606, 607, 1024, 1025, 1026, 1027, 1028, 1029, 1030, 1031, 1032, 1033, 1034, 1035, 1036, 1037, 1038, 1039, 1040, 1041, 1042, 1043, 1044, 1045, 1046, 1047, 1048, 1049, 1050, 1051, 1052, 1053, 1054, 1055, 1056, 1057, 1058, 1059, 1060, 1061, 1062, 1063, 1064, 1065, 1066, 1067, 1068, 1069, 1070, 1071, 1072, 1073, 1074, 1075, 1076] rfl (by decide +kernel)
set_option maxRecDepth 20000 in
theorem gL_law_X12_clash_ : GoodIn wsL_law (wsV RL 63 RX12 yX12_clash_ wsX12_clash_) := goodIn_app (goodIn_of _ (by decide +kernel)) ggL_law_X12_clash_
set_option maxRecDepth 20000 in
theorem ggL_law_X11_enters : GoodIn wsL_law wsX11_enters := goodIn_r _ [611, 32, 24, 529, 530, 531, 31, 532, 99, 612, 613, 614, 615, 98, 537, 307, 308, 50, 309, 60, 616, 617, 618, 23, 619, 83, 84, 85, 620, 579, 580, 386, 387, 2, 388, 1016, 1017, 1018, 1019, 1020, 1021, 1022, 1023, 1092, 1093, 1094, 1113, 1085, 1086, 1087, 1088] rfl (by decide +kernel)
set_option maxRecDepth 20000 in
theorem gL_law_X11_enters : GoodIn wsL_law (wsV RL 64 RX11 yX11_enters wsX11_enters) := goodIn_app (goodIn_of _ (by decide +kernel)) ggL_law_X11_enters
set_option maxRecDepth 20000 in
theorem ggL_law_X12_enters_ : GoodIn wsL_law wsX12_enters_ := goodIn_r _ [624, 174, 542, 543, 544, 5, 545, 175, 625, 626, 627, 628, 445, 443, 444, 589, 590, 591, 592, 167, 170, 593, 594, 595, 596, 173, 597, 598, 599, 600, 168, 171, 605, 606, 607, 1024, 1025, 1026, 1027, 1028, 1029, 1030, 1031, 1032, 1033, 1034, 1035, 1036, 1037, 1038, 1039, 1040, 1041, 1042, 1043, 1044, 1045, 1046, 1047, 1048, 1049, 1050, 1051, 1052, 1053, 1054, 1055, 1056, 1057, 1058, 1059, 1060, 1061, 1062, 1063, 1064, 1065, 1066, 1067, 1068, 1069, 1070, 1071, 1072, 1073, 1074, 1075, 1076] rfl (by decide +kernel)
set_option maxRecDepth 20000 in
theorem gL_law_X12_enters_ : GoodIn wsL_law (wsV RL 67 RX12 yX12_enters_ wsX12_enters_) := goodIn_app (goodIn_of _ (by decide +kernel)) ggL_law_X12_enters_
set_option maxRecDepth 20000 in
theorem ggL_law_X11_clean : GoodIn wsL_law wsX11_clean := goodIn_r _ [632, 32, 24, 633, 634, 635, 31, 636, 99, 637, 638, 639, 640, 641, 551, 552, 553, 98, 537, 307, 308, 50, 309, 60, 642, 565, 566, 567, 568, 378, 379, 380, 569, 476, 477, 100, 570, 571, 572, 573, 574, 575, 576, 577, 578, 579, 23, 580, 643, 644, 645, 646, 647, 613, 614, 615, 616, 617, 618, 619, 83, 84, 85, 620, 386, 387, 2, 388, 1016, 1017, 1018, 1019, 1020, 1021, 1022, 1023, 1092, 1093, 1094, 1085, 1086, 1087, 1088, 1113] rfl (by decide +kernel)
set_option maxRecDepth 20000 in
theorem gL_law_X11_clean : GoodIn wsL_law (wsV RL 68 RX11 yX11_clean wsX11_clean) := goodIn_app (goodIn_of _ (by decide +kernel)) ggL_law_X11_clean
set_option maxRecDepth 20000 in
theorem ggL_law_X12_clean : GoodIn wsL_law wsX12_clean := goodIn_r _ [651, 175, 652, 653, 654, 5, 655, 174, 625, 626, 627, 628, 445, 443, 444, 589, 590, 591, 592, 167, 170, 593, 594, 595, 596, 173, 597, 598, 599, 600, 168, 171, 605, 606, 607, 585, 586, 587, 588, 165, 601, 602, 603, 604, 169, 172, 1024, 1025, 1026, 1027, 1028, 1029, 1030, 1031, 1032, 1033, 1034, 1035, 1036, 1037, 1038, 1039, 1040, 1041, 1042, 1043, 1044, 1045, 1046, 1047, 1048, 1049, 1050, 1051, 1052, 1053, 1054, 1055, 1056, 1057, 1058, 1059, 1060, 1061, 1062, 1063, 1064, 1065, 1066, 1067, 1068, 1069, 1070, 1071, 1072, 1073, 1074, 1075, 1076] rfl (by decide +kernel)
set_option maxRecDepth 20000 in
theorem gL_law_X12_clean : GoodIn wsL_law (wsV RL 71 RX12 yX12_clean wsX12_clean) := goodIn_app (goodIn_of _ (by decide +kernel)) ggL_law_X12_clean
set_option maxRecDepth 20000 in
theorem ggL_law_X11_part : GoodIn wsL_law wsX11_part := goodIn_r _ [659, 32, 24, 36, 633, 634, 635, 31, 636, 99, 660, 644, 645, 646, 647, 613, 614, 615, 98, 537, 307, 308, 50, 309, 60, 616, 617, 618, 23, 619, 83, 84, 85, 620, 579, 580, 661, 662, 663, 35, 664, 109, 665, 378, 379, 380, 110, 111, 108, 666, 667, 668, 669, 670, 106, 671, 565, 566, 567, 568, 569, 476, 477, 100, 570, 571, 572, 573, 574, 575, 576, 577, 578, 672, 232, 233, 234, 673, 674, 675, 676, 677, 678, 679, 680, 107, 681, 682, 683, 684, 685, 686, 687, 688, 689, 690, 691, 692, 693, 502, 503, 504, 500, 1016, 1017, 1018, 1019, 1020, 1021, 1022, 1023, 1085, 1086, 1087, 1088, 1092, 1093, 1094, 1113, 1095, 1096, 1097, 1098, 1099, 1100] rfl (by decide +kernel)
set_option maxRecDepth 20000 in
theorem gL_law_X11_part : GoodIn wsL_law (wsV RL 72 RX11 yX11_part wsX11_part) := goodIn_app (goodIn_of _ (by decide +kernel)) ggL_law_X11_part
set_option maxRecDepth 20000 in
theorem ggL_law_X12_part : GoodIn wsL_law wsX12_part := goodIn_r _ [697, 175, 183, 173, 698, 699, 5, 700, 701, 702, 703, 704, 652, 653, 654, 655, 174, 625, 626, 627, 628, 445, 443, 444, 589, 590, 591, 592, 167, 170, 593, 594, 595, 596, 597, 598, 599, 600, 168, 171, 605, 606, 607, 585, 586, 587, 588, 165, 601, 602, 603, 604, 169, 172, 1024, 1025, 1026, 1027, 1028, 1029, 1030, 1031, 1032, 1033, 1034, 1035, 1036, 1037, 1038, 1039, 1040, 1041, 1042, 1043, 1044, 1045, 1046, 1047, 1048, 1049, 1050, 1051, 1052, 1053, 1054, 1055, 1056, 1057, 1058, 1059, 1060, 1061, 1062, 1063, 1064, 1065, 1066, 1067, 1068, 1069, 1070, 1071, 1072, 1073, 1074, 1075, 1076] rfl (by decide +kernel)
set_option maxRecDepth 20000 in
theorem gL_law_X12_part : GoodIn wsL_law (wsV RL 75 RX12 yX12_part wsX12_part) := goodIn_app (goodIn_of _ (by decide +kernel)) ggL_law_X12_part
set_option maxRecDepth 20000 in
theorem ggL_law_X11_scene : GoodIn wsL_law wsX11_scene := goodIn_r _ [708, 20, 40, 28, 364, 365, 366, 19, 367, 71, 208, 209, 2, 210, 219, 220, 221, 222, 68, 69, 70, 223, 224, 225, 67, 226, 77, 215, 216, 217, 218, 211, 212, 213, 39, 214, 124, 709, 710, 711, 712, 713, 714, 715, 716, 118, 121, 717, 718, 719, 720, 454, 455, 456, 31, 457, 99, 100, 98, 458, 459, 460, 27, 461, 462, 378, 379, 380, 90, 91, 463, 464, 382, 383, 384, 76, 385, 307, 308, 50, 309, 60, 465, 232, 233, 234, 466, 467, 468, 469, 470, 471, 472, 473, 474, 475, 476, 477, 478, 479, 480, 481, 482, 483, 484, 485, 486, 487, 488, 489, 92, 490, 491, 492, 493, 494, 495, 496, 497, 498, 499, 394, 395, 396, 500, 501, 502, 503, 504, 721, 722, 723, 724, 1016, 1017, 1018, 1019, 1020, 1021, 1022, 1023, 1116, 1117, 1118, 1119, 1120, 1081, 1082, 1083, 1084, 1114, 1115, 1101, 1102, 1103, 1104, 1105, 1092, 1093, 1094, 1089, 1090, 1091, 1113] rfl (by decide +kernel)
set_option maxRecDepth 20000 in
theorem gL_law_X11_scene : GoodIn wsL_law (wsV RL 76 RX11 yX11_scene wsX11_scene) := goodIn_app (goodIn_of _ (by decide +kernel)) ggL_law_X11_scene
set_option maxRecDepth 20000 in
theorem ggL_law_X12_scene : GoodIn wsL_law wsX12_scene := goodIn_r _ [728, 509, 434, 272, 160, 248, 247, 184, 185, 186, 187, 188, 179, 402, 403, 404, 5, 405, 334, 249, 250, 251, 729, 730, 731, 732, 510, 511, 512, 513, 174, 175, 167, 157, 161, 168, 158, 162, 169, 163, 170, 171, 172, 173, 514, 515, 516, 517, 177, 178, 518, 180, 181, 182, 414, 415, 416, 519, 520, 521, 522, 523, 524, 733, 734, 735, 736, 1024, 1025, 1026, 1027, 1028, 1029, 1030, 1031, 1032, 1033, 1034, 1035, 1036, 1037, 1038, 1039, 1040, 1041, 1042, 1043, 1044, 1045, 1046, 1047, 1048, 1049, 1050, 1051, 1052, 1053, 1054, 1055, 1056, 1057, 1058, 1059, 1060, 1061, 1062, 1063, 1064, 1065, 1066, 1067, 1068, 1069, 1070, 1071, 1072, 1073, 1074, 1075, 1076] rfl (by decide +kernel)
set_option maxRecDepth 20000 in
theorem gL_law_X12_scene : GoodIn wsL_law (wsV RL 80 RX12 yX12_scene wsX12_scene) := goodIn_app (goodIn_of _ (by decide +kernel)) ggL_law_X12_scene
set_option maxRecDepth 20000 in
theorem ggL_law_X11_stands : GoodIn wsL_law wsX11_stands := goodIn_r _ [740, 40, 741, 742, 743, 2, 744, 20, 219, 220, 221, 19, 222, 68, 69, 70, 389, 390, 391, 67, 392, 77, 745, 746, 747, 39, 748, 124, 749, 750, 751, 752, 713, 714, 715, 716, 118, 121, 753, 534, 535, 31, 536, 98, 537, 307, 308, 50, 309, 60, 1016, 1017, 1018, 1019, 1020, 1021, 1022, 1023, 1081, 1082, 1083, 1084, 1114, 1115, 1101, 1102, 1103, 1104, 1105, 1116, 1117, 1118, 1119, 1120, 1092, 1093, 1094, 1113] rfl (by decide +kernel)
set_option maxRecDepth 20000 in
theorem gL_law_X11_stands : GoodIn wsL_law (wsV RL 81 RX11 yX11_stands wsX11_stands) := goodIn_app (goodIn_of _ (by decide +kernel)) ggL_law_X11_stands
set_option maxRecDepth 20000 in
theorem ggL_law_X12_stands : GoodIn wsL_law wsX12_stands := goodIn_r _ [757, 188, 758, 759, 760, 5, 761, 248, 762, 763, 764, 765, 247, 1024, 1025, 1026, 1027, 1028, 1029, 1030, 1031, 1032, 1033, 1034, 1035, 1036, 1037, 1038, 1039, 1040, 1041, 1042, 1043, 1044, 1045, 1046, 1047, 1048, 1049, 1050, 1051, 1052, 1053, 1054, 1055, 1056, 1057, 1058, 1059, 1060, 1061, 1062, 1063, 1064, 1065, 1066, 1067, 1068, 1069, 1070, 1071, 1072, 1073, 1074, 1075, 1076] rfl (by decide +kernel)
set_option maxRecDepth 20000 in
theorem gL_law_X12_stands : GoodIn wsL_law (wsV RL 84 RX12 yX12_stands wsX12_stands) := goodIn_app (goodIn_of _ (by decide +kernel)) ggL_law_X12_stands
set_option maxRecDepth 20000 in
theorem ggL_law_X11_lands : GoodIn wsL_law wsX11_lands := goodIn_r _ [769, 40, 741, 742, 743, 2, 744, 20, 219, 220, 221, 19, 222, 68, 69, 70, 389, 390, 391, 67, 392, 77, 211, 212, 213, 39, 214, 124, 770, 771, 772, 773, 713, 714, 715, 716, 118, 121, 774, 750, 751, 752, 753, 534, 535, 31, 536, 98, 537, 307, 308, 50, 309, 60, 1016, 1017, 1018, 1019, 1020, 1021, 1022, 1023, 1081, 1082, 1083, 1084, 1114, 1115, 1101, 1102, 1103, 1104, 1105, 1116, 1117, 1118, 1119, 1120, 1092, 1093, 1094, 1113] rfl (by decide +kernel)
set_option maxRecDepth 20000 in
theorem gL_law_X11_lands : GoodIn wsL_law (wsV RL 85 RX11 yX11_lands wsX11_lands) := goodIn_app (goodIn_of _ (by decide +kernel)) ggL_law_X11_lands
set_option maxRecDepth 20000 in
theorem ggL_law_X12_lands : GoodIn wsL_law wsX12_lands := goodIn_r _ [778, 247, 179, 758, 759, 760, 5, 761, 248, 729, 730, 731, 732, 184, 185, 510, 511, 512, 513, 160, 174, 175, 167, 157, 161, 168, 158, 162, 169, 163, 170, 171, 172, 173, 514, 515, 516, 517, 177, 178, 518, 180, 181, 182, 414, 415, 416, 519, 520, 521, 522, 523, 524, 733, 734, 735, 736, 188, 1024, 1025, 1026, 1027, 1028, 1029, 1030, 1031, 1032, 1033, 1034, 1035, 1036, 1037, 1038, 1039, 1040, 1041, 1042, 1043, 1044, 1045, 1046, 1047, 1048, 1049, 1050, 1051, 1052, 1053, 1054, 1055, 1056, 1057, 1058, 1059, 1060, 1061, 1062, 1063, 1064, 1065, 1066, 1067, 1068, 1069, 1070, 1071, 1072, 1073, 1074, 1075, 1076] rfl (by decide +kernel)
set_option maxRecDepth 20000 in
theorem gL_law_X12_lands : GoodIn wsL_law (wsV RL 88 RX12 yX12_lands wsX12_lands) := goodIn_app (goodIn_of _ (by decide +kernel)) ggL_law_X12_lands
set_option maxRecDepth 20000 in
theorem ggL_law_X11_length : GoodIn wsL_law wsX11_length := goodIn_r _ [782, 40, 783, 784, 785, 39, 786, 124, 713, 714, 715, 716, 118, 121, 787, 788, 789, 120, 790, 130, 133, 791, 792, 793, 31, 794, 100, 795, 1016, 1017, 1018, 1019, 1020, 1021, 1022, 1023, 1101, 1102, 1103, 1104, 1105, 1116, 1117, 1118, 1119, 1120, 1092, 1093, 1094] rfl (by decide +kernel)
set_option maxRecDepth 20000 in
theorem gL_law_X11_length : GoodIn wsL_law (wsV RL 89 RX11 yX11_length wsX11_length) := goodIn_app (goodIn_of _ (by decide +kernel)) ggL_law_X11_length
set_option maxRecDepth 20000 in
theorem ggL_law_X12_length : GoodIn wsL_law wsX12_length := goodIn_r _ [799, 247, 185, 186, 1024, 1025, 1026, 1027, 1028, 1029, 1030, 1031, 1032, 1033, 1034, 1035, 1036, 1037, 1038, 1039, 1040, 1041, 1042, 1043, 1044, 1045, 1046, 1047, 1048, 1049, 1050, 1051, 1052, 1053, 1054, 1055, 1056, 1057, 1058, 1059, 1060, 1061, 1062, 1063, 1064, 1065, 1066, 1067, 1068, 1069, 1070, 1071, 1072, 1073, 1074, 1075, 1076] rfl (by decide +kernel)
set_option maxRecDepth 20000 in
theorem gL_law_X12_length : GoodIn wsL_law (wsV RL 92 RX12 yX12_length wsX12_length) := goodIn_app (goodIn_of _ (by decide +kernel)) ggL_law_X12_length
set_option maxRecDepth 20000 in
theorem ggL_law_X11_left : GoodIn wsL_law wsX11_left := goodIn_r _ [803, 40, 804, 741, 742, 743, 2, 744, 20, 219, 220, 221, 19, 222, 68, 69, 70, 389, 390, 391, 67, 392, 77, 805, 806, 807, 39, 808, 123, 124, 809, 307, 308, 50, 309, 60, 713, 714, 715, 716, 118, 121, 810, 811, 812, 31, 813, 98, 100, 537, 753, 534, 535, 536, 1016, 1017, 1018, 1019, 1020, 1021, 1022, 1023, 1081, 1082, 1083, 1084, 1114, 1115, 1101, 1102, 1103, 1104, 1105, 1116, 1117, 1118, 1119, 1120, 1113, 1092, 1093, 1094] rfl (by decide +kernel)
set_option maxRecDepth 20000 in
theorem gL_law_X11_left : GoodIn wsL_law (wsV RL 93 RX11 yX11_left wsX11_left) := goodIn_app (goodIn_of _ (by decide +kernel)) ggL_law_X11_left
set_option maxRecDepth 20000 in
theorem ggL_law_X12_left : GoodIn wsL_law wsX12_left := goodIn_r _ [817, 818, 758, 759, 760, 5, 761, 248, 819, 820, 821, 822, 159, 247, 186, 185, 823, 824, 825, 826, 163, 184, 188, 1024, 1025, 1026, 1027, 1028, 1029, 1030, 1031, 1032, 1033, 1034, 1035, 1036, 1037, 1038, 1039, 1040, 1041, 1042, 1043, 1044, 1045, 1046, 1047, 1048, 1049, 1050, 1051, 1052, 1053, 1054, 1055, 1056, 1057, 1058, 1059, 1060, 1061, 1062, 1063, 1064, 1065, 1066, 1067, 1068, 1069, 1070, 1071, 1072, 1073, 1074, 1075, 1076] rfl (by decide +kernel)
set_option maxRecDepth 20000 in
theorem gL_law_X12_left : GoodIn wsL_law (wsV RL 96 RX12 yX12_left wsX12_left) := goodIn_app (goodIn_of _ (by decide +kernel)) ggL_law_X12_left
set_option maxRecDepth 20000 in
theorem ggL_law_X11_last : GoodIn wsL_law wsX11_last := goodIn_r _ [830, 40, 215, 216, 217, 2, 218, 20, 219, 220, 221, 19, 222, 68, 69, 70, 223, 224, 225, 67, 226, 77, 805, 806, 807, 39, 808, 123, 124, 809, 307, 308, 50, 309, 60, 713, 714, 715, 716, 118, 121, 810, 811, 812, 31, 813, 98, 100, 537, 753, 534, 535, 536, 1016, 1017, 1018, 1019, 1020, 1021, 1022, 1023, 1101, 1102, 1103, 1104, 1105, 1081, 1082, 1083, 1084, 1114, 1115, 1116, 1117, 1118, 1119, 1120, 1113, 1092, 1093, 1094] rfl (by decide +kernel)
set_option maxRecDepth 20000 in
theorem gL_law_X11_last : GoodIn wsL_law (wsV RL 97 RX11 yX11_last wsX11_last) := goodIn_app (goodIn_of _ (by decide +kernel)) ggL_law_X11_last
set_option maxRecDepth 20000 in
theorem ggL_law_X12_last : GoodIn wsL_law wsX12_last := goodIn_r _ [834, 248, 190, 819, 820, 821, 5, 822, 159, 247, 186, 185, 823, 824, 825, 826, 163, 184, 188, 1024, 1025, 1026, 1027, 1028, 1029, 1030, 1031, 1032, 1033, 1034, 1035, 1036, 1037, 1038, 1039, 1040, 1041, 1042, 1043, 1044, 1045, 1046, 1047, 1048, 1049, 1050, 1051, 1052, 1053, 1054, 1055, 1056, 1057, 1058, 1059, 1060, 1061, 1062, 1063, 1064, 1065, 1066, 1067, 1068, 1069, 1070, 1071, 1072, 1073, 1074, 1075, 1076] rfl (by decide +kernel)
set_option maxRecDepth 20000 in
theorem gL_law_X12_last : GoodIn wsL_law (wsV RL 100 RX12 yX12_last wsX12_last) := goodIn_app (goodIn_of _ (by decide +kernel)) ggL_law_X12_last
set_option maxRecDepth 20000 in
theorem ggL_law_X11_margin : GoodIn wsL_law wsX11_margin := goodIn_r _ [838, 40, 208, 209, 2, 210, 1016, 1017, 1018, 1019, 1020, 1021, 1022, 1023, 1101, 1102, 1103, 1104, 1105] rfl (by decide +kernel)
set_option maxRecDepth 20000 in
theorem gL_law_X11_margin : GoodIn wsL_law (wsV RL 101 RX11 yX11_margin wsX11_margin) := goodIn_app (goodIn_of _ (by decide +kernel)) ggL_law_X11_margin
set_option maxRecDepth 20000 in
theorem ggL_law_X12_margin : GoodIn wsL_law wsX12_margin := goodIn_r _ [842, 843, 190, 249, 250, 5, 251, 1024, 1025, 1026, 1027, 1028, 1029, 1030, 1031, 1032, 1033, 1034, 1035, 1036, 1037, 1038, 1039, 1040, 1041, 1042, 1043, 1044, 1045, 1046, 1047, 1048, 1049, 1050, 1051, 1052, 1053, 1054, 1055, 1056, 1057, 1058, 1059, 1060, 1061, 1062, 1063, 1064, 1065, 1066, 1067, 1068, 1069, 1070, 1071, 1072, 1073, 1074, 1075, 1076] rfl (by decide +kernel)
set_option maxRecDepth 20000 in
theorem gL_law_X12_margin : GoodIn wsL_law (wsV RL 104 RX12 yX12_margin wsX12_margin) := goodIn_app (goodIn_of _ (by decide +kernel)) ggL_law_X12_margin
set_option maxRecDepth 20000 in
theorem ggL_law_X11_colour : GoodIn wsL_law wsX11_colour := goodIn_r _ [847, 40, 211, 212, 213, 39, 214, 124, 783, 784, 785, 786, 713, 714, 715, 716, 118, 121, 787, 788, 789, 120, 790, 130, 133, 791, 792, 793, 31, 794, 100, 795, 208, 209, 2, 210, 848, 849, 850, 851, 852, 853, 854, 1016, 1017, 1018, 1019, 1020, 1021, 1022, 1023, 1101, 1102, 1103, 1104, 1105, 1116, 1117, 1118, 1119, 1120, 1092, 1093, 1094] rfl (by decide +kernel)
set_option maxRecDepth 20000 in
theorem gL_law_X11_colour : GoodIn wsL_law (wsV RL 105 RX11 yX11_colour wsX11_colour) := goodIn_app (goodIn_of _ (by decide +kernel)) ggL_law_X11_colour
set_option maxRecDepth 20000 in
theorem ggL_law_X12_colour : GoodIn wsL_law wsX12_colour := goodIn_r _ [858, 247, 185, 187, 186, 859, 797, 798, 5, 799, 249, 250, 251, 1024, 1025, 1026, 1027, 1028, 1029, 1030, 1031, 1032, 1033, 1034, 1035, 1036, 1037, 1038, 1039, 1040, 1041, 1042, 1043, 1044, 1045, 1046, 1047, 1048, 1049, 1050, 1051, 1052, 1053, 1054, 1055, 1056, 1057, 1058, 1059, 1060, 1061, 1062, 1063, 1064, 1065, 1066, 1067, 1068, 1069, 1070, 1071, 1072, 1073, 1074, 1075, 1076] rfl (by decide +kernel)
set_option maxRecDepth 20000 in
theorem gL_law_X12_colour : GoodIn wsL_law (wsV RL 108 RX12 yX12_colour wsX12_colour) := goodIn_app (goodIn_of _ (by decide +kernel)) ggL_law_X12_colour
set_option maxRecDepth 20000 in
theorem ggL_law_X11_unclean : GoodIn wsL_law wsX11_unclean := goodIn_r _ [863, 40, 24, 211, 212, 213, 39, 214, 124, 864, 714, 715, 716, 118, 121, 637, 638, 639, 31, 640, 99, 641, 551, 552, 553, 98, 537, 307, 308, 50, 309, 60, 642, 565, 566, 567, 568, 378, 379, 380, 569, 476, 477, 100, 570, 571, 572, 573, 574, 575, 576, 577, 578, 579, 23, 580, 643, 644, 645, 646, 647, 613, 614, 615, 616, 617, 618, 619, 83, 84, 85, 620, 1016, 1017, 1018, 1019, 1020, 1021, 1022, 1023, 1116, 1117, 1118, 1119, 1120, 1101, 1102, 1103, 1104, 1105, 1092, 1093, 1094, 1085, 1086, 1087, 1088, 1113] rfl (by decide +kernel)
set_option maxRecDepth 20000 in
theorem gL_law_X11_unclean : GoodIn wsL_law (wsV RL 109 RX11 yX11_unclean wsX11_unclean) := goodIn_app (goodIn_of _ (by decide +kernel)) ggL_law_X11_unclean
set_option maxRecDepth 20000 in
theorem ggL_law_X12_unclean : GoodIn wsL_law wsX12_unclean := goodIn_r _ [868, 247, 729, 730, 731, 5, 732, 184, 185, 510, 511, 512, 513, 248, 160, 174, 175, 167, 157, 161, 168, 158, 162, 169, 163, 170, 171, 172, 173, 514, 515, 516, 517, 177, 178, 518, 179, 180, 181, 182, 414, 415, 416, 519, 520, 521, 522, 523, 524, 652, 653, 654, 655, 625, 626, 627, 628, 445, 443, 444, 589, 590, 591, 592, 593, 594, 595, 596, 597, 598, 599, 600, 605, 606, 607, 585, 586, 587, 588, 165, 601, 602, 603, 604, 1024, 1025, 1026, 1027, 1028, 1029, 1030, 1031, 1032, 1033, 1034, 1035, 1036, 1037, 1038, 1039, 1040, 1041, 1042, 1043, 1044, 1045, 1046, 1047, 1048, 1049, 1050, 1051, 1052, 1053, 1054, 1055, 1056, 1057, 1058, 1059, 1060, 1061, 1062, 1063, 1064, 1065, 1066, 1067, 1068, 1069, 1070, 1071, 1072, 1073, 1074, 1075, 1076] rfl (by decide +kernel)
set_option maxRecDepth 20000 in
theorem gL_law_X12_unclean : GoodIn wsL_law (wsV RL 112 RX12 yX12_unclean wsX12_unclean) := goodIn_app (goodIn_of _ (by decide +kernel)) ggL_law_X12_unclean
set_option maxRecDepth 20000 in
theorem ggL_law_X11_fails : GoodIn wsL_law wsX11_fails := goodIn_r _ [872, 40, 741, 742, 743, 2, 744, 20, 219, 220, 221, 19, 222, 68, 69, 70, 389, 390, 391, 67, 392, 77, 745, 746, 747, 39, 748, 124, 208, 209, 210, 873, 874, 875, 876, 864, 714, 715, 716, 118, 121, 749, 750, 751, 752, 713, 753, 534, 535, 31, 536, 98, 537, 307, 308, 50, 309, 60, 393, 394, 395, 396, 76, 385, 215, 216, 217, 218, 223, 224, 225, 226, 1016, 1017, 1018, 1019, 1020, 1021, 1022, 1023, 1081, 1082, 1083, 1084, 1114, 1115, 1101, 1102, 1103, 1104, 1105, 1116, 1117, 1118, 1119, 1120, 1092, 1093, 1094, 1113] rfl (by decide +kernel)
set_option maxRecDepth 20000 in
theorem gL_law_X11_fails : GoodIn wsL_law (wsV RL 113 RX11 yX11_fails wsX11_fails) := goodIn_app (goodIn_of _ (by decide +kernel)) ggL_law_X11_fails
set_option maxRecDepth 20000 in
theorem ggL_law_X12_fails : GoodIn wsL_law wsX12_fails := goodIn_r _ [880, 248, 758, 759, 760, 5, 761, 762, 763, 764, 765, 247, 249, 250, 251, 881, 882, 883, 884, 164, 184, 188, 1024, 1025, 1026, 1027, 1028, 1029, 1030, 1031, 1032, 1033, 1034, 1035, 1036, 1037, 1038, 1039, 1040, 1041, 1042, 1043, 1044, 1045, 1046, 1047, 1048, 1049, 1050, 1051, 1052, 1053, 1054, 1055, 1056, 1057, 1058, 1059, 1060, 1061, 1062, 1063, 1064, 1065, 1066, 1067, 1068, 1069, 1070, 1071, 1072, 1073, 1074, 1075, 1076] rfl (by decide +kernel)
set_option maxRecDepth 20000 in
theorem gL_law_X12_fails : GoodIn wsL_law (wsV RL 116 RX12 yX12_fails wsX12_fails) := goodIn_app (goodIn_of _ (by decide +kernel)) ggL_law_X12_fails
set_option maxRecDepth 20000 in
theorem ggL_law_X11_cut : GoodIn wsL_law wsX11_cut := goodIn_r _ [888, 40, 211, 212, 213, 39, 214, 124, 889, 890, 891, 892, 1016, 1017, 1018, 1019, 1020, 1021, 1022, 1023, 1101, 1102, 1103, 1104, 1105] rfl (by decide +kernel)
set_option maxRecDepth 20000 in
theorem gL_law_X11_cut : GoodIn wsL_law (wsV RL 117 RX11 yX11_cut wsX11_cut) := goodIn_app (goodIn_of _ (by decide +kernel)) ggL_law_X11_cut
set_option maxRecDepth 20000 in
theorem ggL_law_X12_cut : GoodIn wsL_law wsX12_cut := goodIn_r _ [896, 247, 1024, 1025, 1026, 1027, 1028, 1029, 1030, 1031, 1032, 1033, 1034, 1035, 1036, 1037, 1038, 1039, 1040, 1041, 1042, 1043, 1044, 1045, 1046, 1047, 1048, 1049, 1050, 1051, 1052, 1053, 1054, 1055, 1056, 1057, 1058, 1059, 1060, 1061, 1062, 1063, 1064, 1065, 1066, 1067, 1068, 1069, 1070, 1071, 1072, 1073, 1074, 1075, 1076] rfl (by decide +kernel)
set_option maxRecDepth 20000 in
theorem gL_law_X12_cut : GoodIn wsL_law (wsV RL 120 RX12 yX12_cut wsX12_cut) := goodIn_app (goodIn_of _ (by decide +kernel)) ggL_law_X12_cut
set_option maxRecDepth 20000 in
theorem ggL_law_X11_mark : GoodIn wsL_law wsX11_mark := goodIn_r _ [900, 44, 208, 209, 2, 210, 901, 902, 903, 43, 904, 143, 905, 307, 308, 50, 309, 60, 906, 907, 908, 909, 141, 205, 206, 207, 910, 911, 912, 913, 145, 914, 915, 916, 917, 142, 918, 232, 233, 234, 1016, 1017, 1018, 1019, 1020, 1021, 1022, 1023, 1106, 1107, 1108, 1109, 1110, 1111, 1112, 1113] rfl (by decide +kernel)
set_option maxRecDepth 20000 in
theorem gL_law_X11_mark : GoodIn wsL_law (wsV RL 121 RX11 yX11_mark wsX11_mark) := goodIn_app (goodIn_of _ (by decide +kernel)) ggL_law_X11_mark
set_option maxRecDepth 20000 in
theorem ggL_law_X12_mark : GoodIn wsL_law wsX12_mark := goodIn_r _ [922, 559, 923, 244, 245, 924, 191, 192, 193, 194, 195, 249, 250, 5, 251, 1024, 1025, 1026, 1027, 1028, 1029, 1030, 1031, 1032, 1033, 1034, 1035, 1036, 1037, 1038, 1039, 1040, 1041, 1042, 1043, 1044, 1045, 1046, 1047, 1048, 1049, 1050, 1051, 1052, 1053, 1054, 1055, 1056, 1057, 1058, 1059, 1060, 1061, 1062, 1063, 1064, 1065, 1066, 1067, 1068, 1069, 1070, 1071, 1072, 1073, 1074, 1075, 1076] rfl (by decide +kernel)
set_option maxRecDepth 20000 in
theorem gL_law_X12_mark : GoodIn wsL_law (wsV RL 125 RX12 yX12_mark wsX12_mark) := goodIn_app (goodIn_of _ (by decide +kernel)) ggL_law_X12_mark
set_option maxRecDepth 20000 in
theorem ggL_law_X11_first : GoodIn wsL_law wsX11_first := goodIn_r _ [928, 44, 24, 929, 930, 931, 43, 932, 144, 142, 145, 905, 307, 308, 50, 309, 60, 918, 232, 233, 234, 933, 934, 935, 936, 937, 378, 379, 380, 906, 907, 908, 909, 141, 938, 939, 940, 941, 146, 147, 942, 943, 944, 945, 946, 947, 948, 949, 950, 951, 952, 953, 954, 617, 618, 23, 619, 83, 84, 85, 620, 579, 580, 955, 956, 957, 958, 959, 960, 961, 962, 963, 964, 965, 966, 967, 1016, 1017, 1018, 1019, 1020, 1021, 1022, 1023, 1106, 1107, 1108, 1109, 1110, 1111, 1112, 1113, 1085, 1086, 1087, 1088] rfl (by decide +kernel)
set_option maxRecDepth 20000 in
theorem gL_law_X11_first : GoodIn wsL_law (wsV RL 126 RX11 yX11_first wsX11_first) := goodIn_app (goodIn_of _ (by decide +kernel)) ggL_law_X11_first
set_option maxRecDepth 20000 in
theorem ggL_law_X12_first : GoodIn wsL_law wsX12_first := goodIn_r _ [971, 924, 192, 972, 973, 974, 5, 975, 196, 197, 198, 199, 976, 977, 978, 979, 191, 980, 981, 982, 983, 445, 193, 443, 194, 444, 605, 606, 607, 984, 985, 986, 987, 195, 165, 1024, 1025, 1026, 1027, 1028, 1029, 1030, 1031, 1032, 1033, 1034, 1035, 1036, 1037, 1038, 1039, 1040, 1041, 1042, 1043, 1044, 1045, 1046, 1047, 1048, 1049, 1050, 1051, 1052, 1053, 1054, 1055, 1056, 1057, 1058, 1059, 1060, 1061, 1062, 1063, 1064, 1065, 1066, 1067, 1068, 1069, 1070, 1071, 1072, 1073, 1074, 1075, 1076] rfl (by decide +kernel)
set_option maxRecDepth 20000 in
theorem gL_law_X12_first : GoodIn wsL_law (wsV RL 129 RX12 yX12_first wsX12_first) := goodIn_app (goodIn_of _ (by decide +kernel)) ggL_law_X12_first
set_option maxRecDepth 20000 in
theorem ggL_law_X11_who : GoodIn wsL_law wsX11_who := goodIn_r _ [991, 44, 1016, 1017, 1018, 1019, 1020, 1021, 1022, 1023, 1106, 1107, 1108, 1109, 1110, 1111, 1112] rfl (by decide +kernel)
set_option maxRecDepth 20000 in
theorem gL_law_X11_who : GoodIn wsL_law (wsV RL 130 RX11 yX11_who wsX11_who) := goodIn_app (goodIn_of _ (by decide +kernel)) ggL_law_X11_who
set_option maxRecDepth 20000 in
theorem ggL_law_X12_who : GoodIn wsL_law wsX12_who := goodIn_r _ [995, 198, 199, 1024, 1025, 1026, 1027, 1028, 1029, 1030, 1031, 1032, 1033, 1034, 1035, 1036, 1037, 1038, 1039, 1040, 1041, 1042, 1043, 1044, 1045, 1046, 1047, 1048, 1049, 1050, 1051, 1052, 1053, 1054, 1055, 1056, 1057, 1058, 1059, 1060, 1061, 1062, 1063, 1064, 1065, 1066, 1067, 1068, 1069, 1070, 1071, 1072, 1073, 1074, 1075, 1076] rfl (by decide +kernel)
set_option maxRecDepth 20000 in
theorem gL_law_X12_who : GoodIn wsL_law (wsV RL 133 RX12 yX12_who wsX12_who) := goodIn_app (goodIn_of _ (by decide +kernel)) ggL_law_X12_who
set_option maxRecDepth 20000 in
theorem ggL_law_X11_wipe : GoodIn wsL_law wsX11_wipe := goodIn_r _ [999, 44, 910, 911, 912, 43, 913, 145, 1000, 1001, 1002, 1003, 142, 143, 149, 150, 151, 50, 152, 60, 1016, 1017, 1018, 1019, 1020, 1021, 1022, 1023, 1106, 1107, 1108, 1109, 1110, 1111, 1112, 1113] rfl (by decide +kernel)
set_option maxRecDepth 20000 in
theorem gL_law_X11_wipe : GoodIn wsL_law (wsV RL 134 RX11 yX11_wipe wsX11_wipe) := goodIn_app (goodIn_of _ (by decide +kernel)) ggL_law_X11_wipe
set_option maxRecDepth 20000 in
theorem ggL_law_X12_wipe : GoodIn wsL_law wsX12_wipe := goodIn_r _ [1007, 924, 1024, 1025, 1026, 1027, 1028, 1029, 1030, 1031, 1032, 1033, 1034, 1035, 1036, 1037, 1038, 1039, 1040, 1041, 1042, 1043, 1044, 1045, 1046, 1047, 1048, 1049, 1050, 1051, 1052, 1053, 1054, 1055, 1056, 1057, 1058, 1059, 1060, 1061, 1062, 1063, 1064, 1065, 1066, 1067, 1068, 1069, 1070, 1071, 1072, 1073, 1074, 1075, 1076] rfl (by decide +kernel)
set_option maxRecDepth 20000 in
theorem gL_law_X12_wipe : GoodIn wsL_law (wsV RL 137 RX12 yX12_wipe wsX12_wipe) := goodIn_app (goodIn_of _ (by decide +kernel)) ggL_law_X12_wipe
set_option maxRecDepth 20000 in
theorem ggL_law_X11_count : GoodIn wsL_law wsX11_count := goodIn_r _ [1011, 20, 40, 44, 16, 24, 215, 216, 217, 2, 218, 219, 220, 221, 19, 222, 68, 69, 70, 223, 224, 225, 67, 226, 77, 277, 278, 279, 280, 71, 211, 212, 213, 39, 214, 124, 910, 911, 912, 43, 913, 145, 256, 257, 258, 15, 259, 52, 1016, 1017, 1018, 1019, 1020, 1021, 1022, 1023, 1085, 1086, 1087, 1088, 1101, 1102, 1103, 1104, 1105, 1081, 1082, 1083, 1084, 1114, 1115, 1106, 1107, 1108, 1109, 1110, 1111, 1112, 1077, 1078, 1079, 1080] rfl (by decide +kernel)
set_option maxRecDepth 20000 in
theorem gL_law_X11_count : GoodIn wsL_law (wsV RL 138 RX11 yX11_count wsX11_count) := goodIn_app (goodIn_of _ (by decide +kernel)) ggL_law_X11_count
set_option maxRecDepth 20000 in
theorem ggL_law_X12_count : GoodIn wsL_law wsX12_count := goodIn_r _ [1015, 248, 334, 247, 924, 271, 165, 190, 1024, 1025, 1026, 1027, 1028, 1029, 1030, 1031, 1032, 1033, 1034, 1035, 1036, 1037, 1038, 1039, 1040, 1041, 1042, 1043, 1044, 1045, 1046, 1047, 1048, 1049, 1050, 1051, 1052, 1053, 1054, 1055, 1056, 1057, 1058, 1059, 1060, 1061, 1062, 1063, 1064, 1065, 1066, 1067, 1068, 1069, 1070, 1071, 1072, 1073, 1074, 1075, 1076] rfl (by decide +kernel)
set_option maxRecDepth 20000 in
theorem gL_law_X12_count : GoodIn wsL_law (wsV RL 141 RX12 yX12_count wsX12_count) := goodIn_app (goodIn_of _ (by decide +kernel)) ggL_law_X12_count

