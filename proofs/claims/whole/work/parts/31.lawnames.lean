set_option maxRecDepth 20000 in
theorem inlX0 : ∀ w ∈ wsX00, w ∈ wsL_law := fun _ h => List.mem_append_left _ (List.mem_append_left _ (List.mem_append_left _ (List.mem_append_right _ h)))
theorem inX0 : ∀ w ∈ wsX00, w ∈ lw_tbl := fun w h => wsL_law_in w (inlX0 w h)
theorem inlX1 : ∀ w ∈ wsX10, w ∈ wsL_law := fun _ h => List.mem_append_left _ (List.mem_append_left _ (List.mem_append_left _ (List.mem_append_left _ (List.mem_append_right _ h))))
theorem inX1 : ∀ w ∈ wsX10, w ∈ lw_tbl := fun w h => wsL_law_in w (inlX1 w h)
theorem inlX2 : ∀ w ∈ wsX20, w ∈ wsL_law := fun _ h => List.mem_append_left _ (List.mem_append_left _ (List.mem_append_left _ (List.mem_append_left _ (List.mem_append_left _ (List.mem_append_right _ h)))))
theorem inX2 : ∀ w ∈ wsX20, w ∈ lw_tbl := fun w h => wsL_law_in w (inlX2 w h)
theorem inlX3 : ∀ w ∈ wsX30, w ∈ wsL_law := fun _ h => List.mem_append_left _ (List.mem_append_left _ (List.mem_append_left _ (List.mem_append_left _ (List.mem_append_left _ (List.mem_append_left _ (List.mem_append_right _ h))))))
theorem inX3 : ∀ w ∈ wsX30, w ∈ lw_tbl := fun w h => wsL_law_in w (inlX3 w h)
theorem inlX4 : ∀ w ∈ wsX40, w ∈ wsL_law := fun _ h => List.mem_append_left _ (List.mem_append_left _ (List.mem_append_left _ (List.mem_append_left _ (List.mem_append_left _ (List.mem_append_left _ (List.mem_append_left _ (List.mem_append_left _ (List.mem_append_right _ h))))))))
theorem inX4 : ∀ w ∈ wsX40, w ∈ lw_tbl := fun w h => wsL_law_in w (inlX4 w h)
theorem inlX5 : ∀ w ∈ wsX50, w ∈ wsL_law := fun _ h => List.mem_append_left _ (List.mem_append_left _ (List.mem_append_left _ (List.mem_append_left _ (List.mem_append_left _ (List.mem_append_left _ (List.mem_append_left _ (List.mem_append_right _ h)))))))
theorem inX5 : ∀ w ∈ wsX50, w ∈ lw_tbl := fun w h => wsL_law_in w (inlX5 w h)
theorem inlX6 : ∀ w ∈ wsX60, w ∈ wsL_law := fun _ h => List.mem_append_left _ (List.mem_append_right _ h)
theorem inX6 : ∀ w ∈ wsX60, w ∈ lw_tbl := fun w h => wsL_law_in w (inlX6 w h)
theorem inlX7 : ∀ w ∈ wsX70, w ∈ wsL_law := fun _ h => List.mem_append_left _ (List.mem_append_left _ (List.mem_append_right _ h))
theorem inX7 : ∀ w ∈ wsX70, w ∈ lw_tbl := fun w h => wsL_law_in w (inlX7 w h)
theorem inlX8 : ∀ w ∈ wsX80, w ∈ wsL_law := fun _ h => List.mem_append_left _ (List.mem_append_left _ (List.mem_append_left _ (List.mem_append_left _ (List.mem_append_left _ (List.mem_append_left _ (List.mem_append_left _ (List.mem_append_left _ (List.mem_append_left _ (List.mem_append_left _ (List.mem_append_right _ h))))))))))
theorem inX8 : ∀ w ∈ wsX80, w ∈ lw_tbl := fun w h => wsL_law_in w (inlX8 w h)
theorem inlX9 : ∀ w ∈ wsX90, w ∈ wsL_law := fun _ h => List.mem_append_left _ (List.mem_append_left _ (List.mem_append_left _ (List.mem_append_left _ (List.mem_append_left _ (List.mem_append_left _ (List.mem_append_left _ (List.mem_append_left _ (List.mem_append_left _ (List.mem_append_right _ h)))))))))
theorem inX9 : ∀ w ∈ wsX90, w ∈ lw_tbl := fun w h => wsL_law_in w (inlX9 w h)
theorem inlX10 : ∀ w ∈ wsX100, w ∈ wsL_law := fun _ h => List.mem_append_left _ (List.mem_append_left _ (List.mem_append_left _ (List.mem_append_left _ (List.mem_append_left _ (List.mem_append_left _ (List.mem_append_left _ (List.mem_append_left _ (List.mem_append_left _ (List.mem_append_left _ (List.mem_append_left _ (List.mem_append_left _ (List.mem_append_right _ h))))))))))))
theorem inX10 : ∀ w ∈ wsX100, w ∈ lw_tbl := fun w h => wsL_law_in w (inlX10 w h)
theorem inlX11 : ∀ w ∈ wsX110, w ∈ wsL_law := fun _ h => List.mem_append_left _ (List.mem_append_left _ (List.mem_append_left _ (List.mem_append_left _ (List.mem_append_left _ (List.mem_append_left _ (List.mem_append_left _ (List.mem_append_left _ (List.mem_append_left _ (List.mem_append_left _ (List.mem_append_left _ (List.mem_append_right _ h)))))))))))
theorem inX11 : ∀ w ∈ wsX110, w ∈ lw_tbl := fun w h => wsL_law_in w (inlX11 w h)
theorem inJ6 : ∀ w ∈ wsJ60, w ∈ lw_tbl := by decide +kernel
theorem inJ9 : ∀ w ∈ wsJ90, w ∈ lw_tbl := by decide +kernel
theorem inJ10 : ∀ w ∈ wsJ100, w ∈ lw_tbl := by decide +kernel
set_option maxRecDepth 20000 in
theorem ggL_law_X10_init : GoodIn wsL_law wsX10_init := goodIn_r _ [8, 9, 10, 11, 12, 13, 14, 15, 16, 17, 18, 19, 20, 21, 22, 23, 24, 25, 26, 27, 28, 29, 30, 31, 32, 33, 34, 35, 36, 37, 38, 39, 40, 41, 42, 43, 44, 45, 46, 47, 48, 49, 50, 51, 52, 53, 54, 55, 56, 57, 58, 59, 60, 61, 62, 63, 64, 65, 66, 67, 68, 69, 70, 71, 72, 73, 74, 75, 76, 77, 78, 79, 80, 81, 82, 83, 84, 85, 86, 87, 88, 89, 90, 91, 92, 93, 94, 95, 96, 97, 98, 99, 100, 101, 102, 103, 104, 105, 106, 107, 108, 109, 110, 111, 112, 113, 114, 115, 116, 117, 118, 119, 120, 121, 122, 123, 124, 125, 126, 127, 128, 129, 130, 131, 132, 133, 134, 135, 136, 137, 138, 139, 140, 141, 142, 1059, 1060, 1061, 1062, 1063, 1064, 1065, 1066, 1067, 1068, 1069, 1070, 1071, 1072, 1073, 1006, 1007, 1008, 1009, 1010, 1011, 1012, 1013, 1014, 1015, 1016, 1017, 1018, 1074, 1075, 1076, 1077, 1078, 1079, 1080, 1081, 1082, 1083, 1084, 1085, 1086, 1087, 1088, 1089, 1090, 1091, 1092, 1093, 1094, 1095, 1096, 1097, 1098, 1099, 1100, 1101, 1102, 1103, 1104] (by decide +kernel) (by decide +kernel)
set_option maxRecDepth 20000 in
theorem gL_law_X10_init : GoodIn wsL_law (wsX10_init) := ggL_law_X10_init
set_option maxRecDepth 20000 in
theorem ggL_law_X11_init : GoodIn wsL_law wsX11_init := goodIn_r _ [145, 146, 10, 11, 59, 147, 148, 149, 150, 151, 152, 153, 154, 155, 156, 157, 158, 159, 160, 161, 162, 163, 164, 165, 166, 167, 168, 169, 170, 171, 105, 172, 173, 1019, 1020, 1021, 1022, 1023, 1024, 1025, 1026, 1027, 1028, 1029, 1030, 1031, 1032, 1033, 1034, 1035, 1036, 1037, 1038, 1039, 1040, 1041, 1042, 1043, 1044, 1045, 1046, 1047, 1048, 1049, 1050, 1051, 1052, 1053, 1054, 1055, 1056, 1057, 1058] (by decide +kernel) (by decide +kernel)
set_option maxRecDepth 20000 in
theorem gL_law_X11_init : GoodIn wsL_law (wsX11_init) := ggL_law_X11_init
set_option maxRecDepth 20000 in
theorem ggL_law_X10_feed : GoodIn wsL_law wsX10_feed := goodIn_r _ [177, 178, 18, 179, 180, 181, 2, 182, 183, 184, 185, 17, 186, 75, 74, 187, 188, 189, 190, 1006, 1007, 1008, 1009, 1010, 1011, 1012, 1013, 1014, 1015, 1016, 1017, 1018, 1069, 1070, 1071, 1072, 1073] (by decide +kernel) (by decide +kernel)
set_option maxRecDepth 20000 in
theorem gL_law_X10_feed : GoodIn wsL_law (wsV RL 13 RX10 yX10_feed wsX10_feed) := goodIn_app (goodIn_of _ (by decide +kernel)) ggL_law_X10_feed
set_option maxRecDepth 20000 in
theorem ggL_law_X11_feed : GoodIn wsL_law wsX11_feed := goodIn_r _ [194, 195, 196, 197, 198, 153, 199, 200, 5, 201, 1019, 1020, 1021, 1022, 1023, 1024, 1025, 1026, 1027, 1028, 1029, 1030, 1031, 1032, 1033, 1034, 1035, 1036, 1037, 1038, 1039, 1040, 1041, 1042, 1043, 1044, 1045, 1046, 1047, 1048, 1049, 1050, 1051, 1052, 1053, 1054, 1055, 1056, 1057, 1058] (by decide +kernel) (by decide +kernel)
set_option maxRecDepth 20000 in
theorem gL_law_X11_feed : GoodIn wsL_law (wsV RL 17 RX11 yX11_feed wsX11_feed) := goodIn_app (goodIn_of _ (by decide +kernel)) ggL_law_X11_feed
set_option maxRecDepth 20000 in
theorem ggL_law_X10_table : GoodIn wsL_law wsX10_table := goodIn_r _ [205, 18, 20, 53, 19, 24, 28, 32, 36, 40, 206, 207, 208, 17, 209, 76, 77, 78, 210, 211, 212, 14, 213, 65, 66, 67, 68, 69, 214, 215, 216, 217, 75, 218, 219, 220, 221, 74, 222, 223, 224, 225, 226, 227, 228, 229, 230, 231, 232, 233, 234, 235, 236, 237, 238, 239, 240, 241, 242, 243, 244, 181, 2, 182, 245, 246, 247, 248, 249, 250, 251, 252, 253, 254, 255, 256, 257, 258, 259, 260, 60, 61, 62, 261, 262, 263, 264, 265, 266, 267, 268, 63, 64, 269, 270, 271, 272, 273, 274, 275, 276, 277, 278, 279, 280, 281, 282, 283, 284, 285, 286, 287, 288, 23, 289, 84, 85, 86, 87, 83, 88, 89, 90, 91, 290, 291, 292, 27, 293, 97, 98, 294, 295, 296, 31, 297, 106, 298, 299, 300, 35, 301, 113, 302, 303, 304, 39, 305, 120, 1006, 1007, 1008, 1009, 1010, 1011, 1012, 1013, 1014, 1015, 1016, 1017, 1018, 1059, 1060, 1061, 1062, 1063, 1064, 1065, 1066, 1067, 1068, 1069, 1070, 1071, 1072, 1073, 1074, 1075, 1076, 1077, 1078, 1079, 1080, 1081, 1082, 1083, 1084, 1085, 1086, 1087, 1088, 1089, 1090, 1091, 1092, 1093, 1094] (by decide +kernel) (by decide +kernel)
set_option maxRecDepth 20000 in
theorem gL_law_X10_table : GoodIn wsL_law (wsV RL 18 RX10 yX10_table wsX10_table) := goodIn_app (goodIn_of _ (by decide +kernel)) ggL_law_X10_table
set_option maxRecDepth 20000 in
theorem ggL_law_X11_table : GoodIn wsL_law wsX11_table := goodIn_r _ [309, 154, 310, 155, 311, 312, 197, 313, 314, 315, 172, 316, 317, 318, 319, 5, 320, 153, 321, 322, 323, 324, 325, 326, 327, 328, 329, 330, 331, 332, 333, 334, 335, 336, 337, 338, 339, 340, 341, 342, 343, 344, 199, 200, 201, 345, 346, 347, 348, 156, 157, 349, 350, 351, 352, 158, 159, 353, 354, 355, 356, 173, 357, 358, 152, 147, 148, 151, 149, 150, 1019, 1020, 1021, 1022, 1023, 1024, 1025, 1026, 1027, 1028, 1029, 1030, 1031, 1032, 1033, 1034, 1035, 1036, 1037, 1038, 1039, 1040, 1041, 1042, 1043, 1044, 1045, 1046, 1047, 1048, 1049, 1050, 1051, 1052, 1053, 1054, 1055, 1056, 1057, 1058] (by decide +kernel) (by decide +kernel)
set_option maxRecDepth 20000 in
theorem gL_law_X11_table : GoodIn wsL_law (wsV RL 22 RX11 yX11_table wsX11_table) := goodIn_app (goodIn_of _ (by decide +kernel)) ggL_law_X11_table
set_option maxRecDepth 20000 in
theorem ggL_law_X10_fault : GoodIn wsL_law wsX10_fault := goodIn_r _ [362, 53, 1006, 1007, 1008, 1009, 1010, 1011, 1012, 1013, 1014, 1015, 1016, 1017, 1018] (by decide +kernel) (by decide +kernel)
set_option maxRecDepth 20000 in
theorem gL_law_X10_fault : GoodIn wsL_law (wsV RL 23 RX10 yX10_fault wsX10_fault) := goodIn_app (goodIn_of _ (by decide +kernel)) ggL_law_X10_fault
set_option maxRecDepth 20000 in
theorem ggL_law_X11_fault : GoodIn wsL_law wsX11_fault := goodIn_r _ [366, 154, 1019, 1020, 1021, 1022, 1023, 1024, 1025, 1026, 1027, 1028, 1029, 1030, 1031, 1032, 1033, 1034, 1035, 1036, 1037, 1038, 1039, 1040, 1041, 1042, 1043, 1044, 1045, 1046, 1047, 1048, 1049, 1050, 1051, 1052, 1053, 1054, 1055, 1056, 1057, 1058] (by decide +kernel) (by decide +kernel)
set_option maxRecDepth 20000 in
theorem gL_law_X11_fault : GoodIn wsL_law (wsV RL 26 RX11 yX11_fault wsX11_fault) := goodIn_app (goodIn_of _ (by decide +kernel)) ggL_law_X11_fault
set_option maxRecDepth 20000 in
theorem ggL_law_X10_told : GoodIn wsL_law wsX10_told := goodIn_r _ [370, 19, 24, 18, 36, 40, 28, 178, 187, 188, 189, 17, 190, 75, 371, 372, 373, 23, 374, 375, 376, 377, 378, 83, 84, 379, 380, 381, 14, 382, 68, 383, 384, 385, 386, 387, 388, 389, 390, 391, 392, 393, 394, 85, 395, 396, 397, 398, 61, 60, 399, 400, 401, 402, 403, 404, 405, 406, 407, 408, 409, 410, 411, 412, 413, 414, 415, 416, 417, 418, 419, 420, 421, 422, 423, 1006, 1007, 1008, 1009, 1010, 1011, 1012, 1013, 1014, 1015, 1016, 1017, 1018, 1059, 1060, 1061, 1062, 1063, 1064, 1065, 1066, 1067, 1068, 1074, 1075, 1076, 1077, 1078, 1079, 1080, 1081, 1082, 1089, 1090, 1091, 1092, 1093, 1094, 1083, 1084, 1085, 1069, 1070, 1071, 1072, 1073] (by decide +kernel) (by decide +kernel)
set_option maxRecDepth 20000 in
theorem gL_law_X10_told : GoodIn wsL_law (wsV RL 27 RX10 yX10_told wsX10_told) := goodIn_app (goodIn_of _ (by decide +kernel)) ggL_law_X10_told
set_option maxRecDepth 20000 in
theorem ggL_law_X11_told : GoodIn wsL_law wsX11_told := goodIn_r _ [427, 173, 152, 357, 316, 358, 197, 313, 314, 315, 196, 428, 429, 430, 5, 431, 432, 433, 434, 435, 436, 437, 438, 439, 440, 441, 442, 443, 444, 445, 446, 447, 148, 147, 448, 449, 450, 451, 452, 453, 454, 455, 456, 457, 458, 459, 1019, 1020, 1021, 1022, 1023, 1024, 1025, 1026, 1027, 1028, 1029, 1030, 1031, 1032, 1033, 1034, 1035, 1036, 1037, 1038, 1039, 1040, 1041, 1042, 1043, 1044, 1045, 1046, 1047, 1048, 1049, 1050, 1051, 1052, 1053, 1054, 1055, 1056, 1057, 1058] (by decide +kernel) (by decide +kernel)
set_option maxRecDepth 20000 in
theorem gL_law_X11_told : GoodIn wsL_law (wsV RL 30 RX11 yX11_told wsX11_told) := goodIn_app (goodIn_of _ (by decide +kernel)) ggL_law_X11_told
set_option maxRecDepth 20000 in
theorem ggL_law_X10_egg : GoodIn wsL_law wsX10_egg := goodIn_r _ [463, 19, 464, 24, 178, 465, 380, 381, 14, 382, 68, 466, 467, 468, 469, 60, 406, 470, 421, 422, 423, 61, 471, 376, 377, 23, 378, 83, 84, 379, 472, 392, 393, 394, 85, 473, 388, 389, 390, 391, 395, 396, 397, 398, 399, 400, 401, 402, 403, 404, 405, 474, 412, 413, 414, 415, 416, 417, 418, 419, 420, 475, 476, 477, 478, 62, 1006, 1007, 1008, 1009, 1010, 1011, 1012, 1013, 1014, 1015, 1016, 1017, 1018, 1059, 1060, 1061, 1062, 1063, 1064, 1065, 1066, 1067, 1068, 1074, 1075, 1076, 1077, 1078, 1079, 1080, 1081, 1082] (by decide +kernel) (by decide +kernel)
set_option maxRecDepth 20000 in
theorem gL_law_X10_egg : GoodIn wsL_law (wsV RL 31 RX10 yX10_egg wsX10_egg) := goodIn_app (goodIn_of _ (by decide +kernel)) ggL_law_X10_egg
set_option maxRecDepth 20000 in
theorem ggL_law_X11_egg : GoodIn wsL_law wsX11_egg := goodIn_r _ [482, 483, 147, 148, 152, 151, 196, 484, 485, 486, 5, 487, 316, 199, 200, 201, 440, 441, 442, 443, 444, 445, 446, 447, 452, 453, 454, 455, 456, 457, 458, 459, 1019, 1020, 1021, 1022, 1023, 1024, 1025, 1026, 1027, 1028, 1029, 1030, 1031, 1032, 1033, 1034, 1035, 1036, 1037, 1038, 1039, 1040, 1041, 1042, 1043, 1044, 1045, 1046, 1047, 1048, 1049, 1050, 1051, 1052, 1053, 1054, 1055, 1056, 1057, 1058] (by decide +kernel) (by decide +kernel)
set_option maxRecDepth 20000 in
theorem gL_law_X11_egg : GoodIn wsL_law (wsV RL 35 RX11 yX11_egg wsX11_egg) := goodIn_app (goodIn_of _ (by decide +kernel)) ggL_law_X11_egg
set_option maxRecDepth 20000 in
theorem ggL_law_X10_eater : GoodIn wsL_law wsX10_eater := goodIn_r _ [491, 19, 464, 178, 492, 493, 494, 14, 495, 69, 496, 497, 498, 499, 63, 500, 501, 502, 503, 504, 64, 1006, 1007, 1008, 1009, 1010, 1011, 1012, 1013, 1014, 1015, 1016, 1017, 1018, 1059, 1060, 1061, 1062, 1063, 1064, 1065, 1066, 1067, 1068] (by decide +kernel) (by decide +kernel)
set_option maxRecDepth 20000 in
theorem gL_law_X10_eater : GoodIn wsL_law (wsV RL 36 RX10 yX10_eater wsX10_eater) := goodIn_app (goodIn_of _ (by decide +kernel)) ggL_law_X10_eater
set_option maxRecDepth 20000 in
theorem ggL_law_X11_eater : GoodIn wsL_law wsX11_eater := goodIn_r _ [508, 483, 149, 150, 196, 509, 510, 511, 5, 512, 358, 199, 200, 201, 1019, 1020, 1021, 1022, 1023, 1024, 1025, 1026, 1027, 1028, 1029, 1030, 1031, 1032, 1033, 1034, 1035, 1036, 1037, 1038, 1039, 1040, 1041, 1042, 1043, 1044, 1045, 1046, 1047, 1048, 1049, 1050, 1051, 1052, 1053, 1054, 1055, 1056, 1057, 1058] (by decide +kernel) (by decide +kernel)
set_option maxRecDepth 20000 in
theorem gL_law_X11_eater : GoodIn wsL_law (wsV RL 39 RX11 yX11_eater wsX11_eater) := goodIn_app (goodIn_of _ (by decide +kernel)) ggL_law_X11_eater
set_option maxRecDepth 20000 in
theorem ggL_law_X10_minute : GoodIn wsL_law wsX10_minute := goodIn_r _ [516, 28, 24, 517, 518, 519, 2, 520, 178, 19, 521, 179, 180, 181, 182, 522, 227, 228, 14, 229, 65, 523, 524, 525, 27, 526, 97, 98, 96, 527, 528, 529, 23, 530, 84, 531, 282, 283, 284, 85, 86, 87, 88, 89, 90, 91, 532, 533, 534, 535, 536, 537, 538, 375, 376, 377, 378, 83, 379, 380, 381, 382, 68, 539, 540, 541, 542, 543, 544, 545, 546, 547, 548, 549, 550, 551, 552, 553, 554, 1006, 1007, 1008, 1009, 1010, 1011, 1012, 1013, 1014, 1015, 1016, 1017, 1018, 1074, 1075, 1076, 1077, 1078, 1079, 1080, 1081, 1082, 1059, 1060, 1061, 1062, 1063, 1064, 1065, 1066, 1067, 1068, 1083, 1084, 1085] (by decide +kernel) (by decide +kernel)
set_option maxRecDepth 20000 in
theorem gL_law_X10_minute : GoodIn wsL_law (wsV RL 40 RX10 yX10_minute wsX10_minute) := goodIn_app (goodIn_of _ (by decide +kernel)) ggL_law_X10_minute
set_option maxRecDepth 20000 in
theorem ggL_law_X11_minute : GoodIn wsL_law wsX11_minute := goodIn_r _ [558, 152, 559, 560, 561, 5, 562, 563, 196, 173, 564, 198, 199, 200, 201, 565, 566, 567, 568, 315, 160, 569, 570, 571, 572, 316, 357, 428, 429, 430, 431, 1019, 1020, 1021, 1022, 1023, 1024, 1025, 1026, 1027, 1028, 1029, 1030, 1031, 1032, 1033, 1034, 1035, 1036, 1037, 1038, 1039, 1040, 1041, 1042, 1043, 1044, 1045, 1046, 1047, 1048, 1049, 1050, 1051, 1052, 1053, 1054, 1055, 1056, 1057, 1058] (by decide +kernel) (by decide +kernel)
set_option maxRecDepth 20000 in
theorem gL_law_X11_minute : GoodIn wsL_law (wsV RL 43 RX11 yX11_minute wsX11_minute) := goodIn_app (goodIn_of _ (by decide +kernel)) ggL_law_X11_minute
set_option maxRecDepth 20000 in
theorem ggL_law_X10_put : GoodIn wsL_law wsX10_put := goodIn_r _ [576, 19, 464, 24, 521, 28, 465, 380, 381, 14, 382, 68, 577, 578, 579, 23, 580, 83, 375, 376, 377, 378, 84, 379, 581, 582, 583, 584, 585, 372, 373, 374, 586, 587, 588, 589, 590, 591, 592, 523, 524, 525, 27, 526, 97, 98, 96, 527, 528, 529, 530, 531, 282, 283, 284, 85, 86, 87, 88, 89, 90, 91, 532, 533, 534, 593, 594, 595, 596, 551, 552, 553, 554, 597, 1006, 1007, 1008, 1009, 1010, 1011, 1012, 1013, 1014, 1015, 1016, 1017, 1018, 1059, 1060, 1061, 1062, 1063, 1064, 1065, 1066, 1067, 1068, 1074, 1075, 1076, 1077, 1078, 1079, 1080, 1081, 1082, 1083, 1084, 1085] (by decide +kernel) (by decide +kernel)
set_option maxRecDepth 20000 in
theorem gL_law_X10_put : GoodIn wsL_law (wsV RL 44 RX10 yX10_put wsX10_put) := goodIn_app (goodIn_of _ (by decide +kernel)) ggL_law_X10_put
set_option maxRecDepth 20000 in
theorem ggL_law_X11_put : GoodIn wsL_law wsX11_put := goodIn_r _ [601, 483, 564, 152, 484, 485, 486, 5, 487, 316, 199, 200, 201, 602, 603, 604, 605, 173, 606, 607, 608, 609, 565, 566, 567, 568, 315, 160, 1019, 1020, 1021, 1022, 1023, 1024, 1025, 1026, 1027, 1028, 1029, 1030, 1031, 1032, 1033, 1034, 1035, 1036, 1037, 1038, 1039, 1040, 1041, 1042, 1043, 1044, 1045, 1046, 1047, 1048, 1049, 1050, 1051, 1052, 1053, 1054, 1055, 1056, 1057, 1058] (by decide +kernel) (by decide +kernel)
set_option maxRecDepth 20000 in
theorem gL_law_X11_put : GoodIn wsL_law (wsV RL 47 RX11 yX11_put wsX11_put) := goodIn_app (goodIn_of _ (by decide +kernel)) ggL_law_X11_put
set_option maxRecDepth 20000 in
theorem ggL_law_X10_takeOut : GoodIn wsL_law wsX10_takeOut := goodIn_r _ [613, 19, 464, 24, 521, 28, 465, 380, 381, 14, 382, 68, 614, 615, 616, 23, 617, 375, 376, 377, 378, 83, 84, 379, 523, 524, 525, 27, 526, 97, 98, 96, 527, 528, 529, 530, 531, 282, 283, 284, 85, 86, 87, 88, 89, 90, 91, 532, 533, 534, 618, 619, 620, 621, 551, 552, 553, 554, 473, 388, 389, 390, 391, 392, 393, 394, 395, 396, 397, 398, 61, 60, 399, 400, 401, 402, 403, 404, 405, 406, 1006, 1007, 1008, 1009, 1010, 1011, 1012, 1013, 1014, 1015, 1016, 1017, 1018, 1059, 1060, 1061, 1062, 1063, 1064, 1065, 1066, 1067, 1068, 1074, 1075, 1076, 1077, 1078, 1079, 1080, 1081, 1082, 1083, 1084, 1085] (by decide +kernel) (by decide +kernel)
set_option maxRecDepth 20000 in
theorem gL_law_X10_takeOut : GoodIn wsL_law (wsV RL 48 RX10 yX10_takeOut wsX10_takeOut) := goodIn_app (goodIn_of _ (by decide +kernel)) ggL_law_X10_takeOut
set_option maxRecDepth 20000 in
theorem ggL_law_X11_takeOut : GoodIn wsL_law wsX11_takeOut := goodIn_r _ [625, 483, 152, 564, 484, 485, 486, 5, 487, 316, 199, 200, 201, 565, 566, 567, 568, 315, 160, 440, 441, 442, 443, 444, 445, 446, 447, 148, 147, 1019, 1020, 1021, 1022, 1023, 1024, 1025, 1026, 1027, 1028, 1029, 1030, 1031, 1032, 1033, 1034, 1035, 1036, 1037, 1038, 1039, 1040, 1041, 1042, 1043, 1044, 1045, 1046, 1047, 1048, 1049, 1050, 1051, 1052, 1053, 1054, 1055, 1056, 1057, 1058] (by decide +kernel) (by decide +kernel)
set_option maxRecDepth 20000 in
theorem gL_law_X11_takeOut : GoodIn wsL_law (wsV RL 51 RX11 yX11_takeOut wsX11_takeOut) := goodIn_app (goodIn_of _ (by decide +kernel)) ggL_law_X11_takeOut
set_option maxRecDepth 20000 in
theorem ggL_law_X10_crown : GoodIn wsL_law wsX10_crown := goodIn_r _ [629, 19, 464, 24, 521, 28, 465, 380, 381, 14, 382, 68, 630, 631, 632, 23, 633, 86, 375, 376, 377, 378, 83, 84, 379, 523, 524, 525, 27, 526, 97, 98, 96, 527, 528, 529, 530, 531, 282, 283, 284, 85, 87, 88, 89, 90, 91, 532, 533, 534, 634, 635, 636, 637, 551, 552, 553, 554, 411, 412, 413, 414, 391, 392, 393, 394, 415, 416, 417, 418, 419, 396, 397, 398, 61, 60, 399, 400, 401, 402, 403, 404, 405, 406, 420, 421, 422, 423, 1006, 1007, 1008, 1009, 1010, 1011, 1012, 1013, 1014, 1015, 1016, 1017, 1018, 1074, 1075, 1076, 1077, 1078, 1079, 1080, 1081, 1082, 1059, 1060, 1061, 1062, 1063, 1064, 1065, 1066, 1067, 1068, 1083, 1084, 1085] (by decide +kernel) (by decide +kernel)
set_option maxRecDepth 20000 in
theorem gL_law_X10_crown : GoodIn wsL_law (wsV RL 52 RX10 yX10_crown wsX10_crown) := goodIn_app (goodIn_of _ (by decide +kernel)) ggL_law_X10_crown
set_option maxRecDepth 20000 in
theorem ggL_law_X11_crown : GoodIn wsL_law wsX11_crown := goodIn_r _ [641, 483, 564, 152, 484, 485, 486, 5, 487, 316, 199, 200, 201, 642, 643, 644, 645, 428, 429, 430, 431, 565, 566, 567, 568, 315, 160, 646, 647, 648, 649, 452, 453, 454, 455, 456, 457, 458, 459, 148, 444, 445, 446, 447, 147, 1019, 1020, 1021, 1022, 1023, 1024, 1025, 1026, 1027, 1028, 1029, 1030, 1031, 1032, 1033, 1034, 1035, 1036, 1037, 1038, 1039, 1040, 1041, 1042, 1043, 1044, 1045, 1046, 1047, 1048, 1049, 1050, 1051, 1052, 1053, 1054, 1055, 1056, 1057, 1058] (by decide +kernel) (by decide +kernel)
set_option maxRecDepth 20000 in
theorem gL_law_X11_crown : GoodIn wsL_law (wsV RL 55 RX11 yX11_crown wsX11_crown) := goodIn_app (goodIn_of _ (by decide +kernel)) ggL_law_X11_crown
set_option maxRecDepth 20000 in
theorem ggL_law_X10_cutToast : GoodIn wsL_law wsX10_cutToast := goodIn_r _ [653, 178, 19, 521, 28, 24, 654, 400, 401, 402, 180, 181, 2, 182, 522, 227, 228, 14, 229, 65, 523, 524, 525, 27, 526, 97, 98, 96, 527, 528, 529, 23, 530, 84, 531, 282, 283, 284, 85, 86, 87, 88, 89, 90, 91, 532, 533, 534, 1006, 1007, 1008, 1009, 1010, 1011, 1012, 1013, 1014, 1015, 1016, 1017, 1018, 1074, 1075, 1076, 1077, 1078, 1079, 1080, 1081, 1082, 1059, 1060, 1061, 1062, 1063, 1064, 1065, 1066, 1067, 1068, 1083, 1084, 1085] (by decide +kernel) (by decide +kernel)
set_option maxRecDepth 20000 in
theorem gL_law_X10_cutToast : GoodIn wsL_law (wsV RL 56 RX10 yX10_cutToast wsX10_cutToast) := goodIn_app (goodIn_of _ (by decide +kernel)) ggL_law_X10_cutToast
set_option maxRecDepth 20000 in
theorem ggL_law_X11_cutToast : GoodIn wsL_law wsX11_cutToast := goodIn_r _ [658, 659, 196, 173, 564, 152, 199, 200, 5, 201, 565, 566, 567, 568, 315, 160, 1019, 1020, 1021, 1022, 1023, 1024, 1025, 1026, 1027, 1028, 1029, 1030, 1031, 1032, 1033, 1034, 1035, 1036, 1037, 1038, 1039, 1040, 1041, 1042, 1043, 1044, 1045, 1046, 1047, 1048, 1049, 1050, 1051, 1052, 1053, 1054, 1055, 1056, 1057, 1058] (by decide +kernel) (by decide +kernel)
set_option maxRecDepth 20000 in
theorem gL_law_X11_cutToast : GoodIn wsL_law (wsV RL 59 RX11 yX11_cutToast wsX11_cutToast) := goodIn_app (goodIn_of _ (by decide +kernel)) ggL_law_X11_cutToast
set_option maxRecDepth 20000 in
theorem ggL_law_X10_drift : GoodIn wsL_law wsX10_drift := goodIn_r _ [663, 28, 24, 517, 518, 519, 2, 520, 178, 19, 521, 179, 180, 181, 182, 522, 227, 228, 14, 229, 65, 523, 524, 525, 27, 526, 97, 98, 96, 527, 528, 529, 23, 530, 84, 531, 282, 283, 284, 85, 86, 87, 88, 89, 90, 91, 532, 533, 534, 664, 665, 666, 667, 668, 669, 670, 671, 54, 672, 673, 674, 675, 577, 578, 579, 580, 83, 375, 376, 377, 378, 379, 380, 381, 382, 68, 581, 582, 583, 584, 585, 372, 373, 374, 586, 587, 588, 589, 590, 591, 592, 593, 594, 595, 596, 551, 552, 553, 554, 614, 615, 616, 617, 618, 619, 620, 621, 630, 631, 632, 633, 634, 635, 636, 637, 411, 412, 413, 414, 391, 392, 393, 394, 415, 416, 417, 418, 419, 396, 397, 398, 61, 60, 399, 400, 401, 402, 403, 404, 405, 406, 420, 421, 422, 423, 535, 536, 537, 538, 539, 540, 541, 542, 543, 544, 545, 546, 547, 548, 549, 550, 1006, 1007, 1008, 1009, 1010, 1011, 1012, 1013, 1014, 1015, 1016, 1017, 1018, 1074, 1075, 1076, 1077, 1078, 1079, 1080, 1081, 1082, 1059, 1060, 1061, 1062, 1063, 1064, 1065, 1066, 1067, 1068, 1083, 1084, 1085] (by decide +kernel) (by decide +kernel)
set_option maxRecDepth 20000 in
theorem gL_law_X10_drift : GoodIn wsL_law (wsV RL 60 RX10 yX10_drift wsX10_drift) := goodIn_app (goodIn_of _ (by decide +kernel)) ggL_law_X10_drift
set_option maxRecDepth 20000 in
theorem ggL_law_X11_drift : GoodIn wsL_law wsX11_drift := goodIn_r _ [679, 316, 152, 559, 560, 561, 5, 562, 563, 196, 173, 564, 198, 199, 200, 201, 565, 566, 567, 568, 315, 160, 680, 681, 682, 683, 684, 685, 686, 687, 688, 689, 690, 691, 692, 602, 603, 604, 605, 606, 607, 608, 609, 642, 643, 644, 645, 428, 429, 430, 431, 646, 647, 648, 649, 452, 453, 454, 455, 456, 457, 458, 459, 148, 444, 445, 446, 447, 147, 569, 570, 571, 572, 357, 1019, 1020, 1021, 1022, 1023, 1024, 1025, 1026, 1027, 1028, 1029, 1030, 1031, 1032, 1033, 1034, 1035, 1036, 1037, 1038, 1039, 1040, 1041, 1042, 1043, 1044, 1045, 1046, 1047, 1048, 1049, 1050, 1051, 1052, 1053, 1054, 1055, 1056, 1057, 1058] (by decide +kernel) (by decide +kernel)
set_option maxRecDepth 20000 in
theorem gL_law_X11_drift : GoodIn wsL_law (wsV RL 63 RX11 yX11_drift wsX11_drift) := goodIn_app (goodIn_of _ (by decide +kernel)) ggL_law_X11_drift
set_option maxRecDepth 20000 in
theorem ggL_law_X10_undo : GoodIn wsL_law wsX10_undo := goodIn_r _ [696, 28, 24, 521, 697, 698, 699, 27, 700, 98, 97, 96, 701, 702, 703, 23, 704, 84, 531, 282, 283, 284, 85, 86, 87, 88, 89, 90, 91, 532, 533, 534, 1006, 1007, 1008, 1009, 1010, 1011, 1012, 1013, 1014, 1015, 1016, 1017, 1018, 1083, 1084, 1085, 1074, 1075, 1076, 1077, 1078, 1079, 1080, 1081, 1082] (by decide +kernel) (by decide +kernel)
set_option maxRecDepth 20000 in
theorem gL_law_X10_undo : GoodIn wsL_law (wsV RL 64 RX10 yX10_undo wsX10_undo) := goodIn_app (goodIn_of _ (by decide +kernel)) ggL_law_X10_undo
set_option maxRecDepth 20000 in
theorem ggL_law_X11_undo : GoodIn wsL_law wsX11_undo := goodIn_r _ [708, 315, 564, 152, 160, 1019, 1020, 1021, 1022, 1023, 1024, 1025, 1026, 1027, 1028, 1029, 1030, 1031, 1032, 1033, 1034, 1035, 1036, 1037, 1038, 1039, 1040, 1041, 1042, 1043, 1044, 1045, 1046, 1047, 1048, 1049, 1050, 1051, 1052, 1053, 1054, 1055, 1056, 1057, 1058] (by decide +kernel) (by decide +kernel)
set_option maxRecDepth 20000 in
theorem gL_law_X11_undo : GoodIn wsL_law (wsV RL 67 RX11 yX11_undo wsX11_undo) := goodIn_app (goodIn_of _ (by decide +kernel)) ggL_law_X11_undo
set_option maxRecDepth 20000 in
theorem ggL_law_X10_wish : GoodIn wsL_law wsX10_wish := goodIn_r _ [712, 19, 464, 178, 465, 380, 381, 14, 382, 68, 180, 181, 2, 182, 475, 476, 477, 478, 62, 406, 713, 714, 715, 716, 1006, 1007, 1008, 1009, 1010, 1011, 1012, 1013, 1014, 1015, 1016, 1017, 1018, 1059, 1060, 1061, 1062, 1063, 1064, 1065, 1066, 1067, 1068] (by decide +kernel) (by decide +kernel)
set_option maxRecDepth 20000 in
theorem gL_law_X10_wish : GoodIn wsL_law (wsV RL 68 RX10 yX10_wish wsX10_wish) := goodIn_app (goodIn_of _ (by decide +kernel)) ggL_law_X10_wish
set_option maxRecDepth 20000 in
theorem ggL_law_X11_wish : GoodIn wsL_law wsX11_wish := goodIn_r _ [720, 483, 357, 196, 151, 484, 485, 486, 5, 487, 316, 199, 200, 201, 1019, 1020, 1021, 1022, 1023, 1024, 1025, 1026, 1027, 1028, 1029, 1030, 1031, 1032, 1033, 1034, 1035, 1036, 1037, 1038, 1039, 1040, 1041, 1042, 1043, 1044, 1045, 1046, 1047, 1048, 1049, 1050, 1051, 1052, 1053, 1054, 1055, 1056, 1057, 1058] (by decide +kernel) (by decide +kernel)
set_option maxRecDepth 20000 in
theorem gL_law_X11_wish : GoodIn wsL_law (wsV RL 71 RX11 yX11_wish wsX11_wish) := goodIn_app (goodIn_of _ (by decide +kernel)) ggL_law_X11_wish
set_option maxRecDepth 20000 in
theorem ggL_law_X10_needs : GoodIn wsL_law wsX10_needs := goodIn_r _ [724, 19, 464, 178, 465, 380, 381, 14, 382, 68, 180, 181, 2, 182, 725, 416, 417, 418, 419, 396, 397, 398, 61, 60, 399, 400, 401, 402, 403, 404, 405, 406, 420, 421, 422, 423, 1006, 1007, 1008, 1009, 1010, 1011, 1012, 1013, 1014, 1015, 1016, 1017, 1018, 1059, 1060, 1061, 1062, 1063, 1064, 1065, 1066, 1067, 1068] (by decide +kernel) (by decide +kernel)
set_option maxRecDepth 20000 in
theorem gL_law_X10_needs : GoodIn wsL_law (wsV RL 72 RX10 yX10_needs wsX10_needs) := goodIn_app (goodIn_of _ (by decide +kernel)) ggL_law_X10_needs
set_option maxRecDepth 20000 in
theorem ggL_law_X11_needs : GoodIn wsL_law wsX11_needs := goodIn_r _ [729, 483, 659, 196, 357, 484, 485, 486, 5, 487, 316, 199, 200, 201, 456, 457, 458, 459, 148, 444, 445, 446, 447, 147, 1019, 1020, 1021, 1022, 1023, 1024, 1025, 1026, 1027, 1028, 1029, 1030, 1031, 1032, 1033, 1034, 1035, 1036, 1037, 1038, 1039, 1040, 1041, 1042, 1043, 1044, 1045, 1046, 1047, 1048, 1049, 1050, 1051, 1052, 1053, 1054, 1055, 1056, 1057, 1058] (by decide +kernel) (by decide +kernel)
set_option maxRecDepth 20000 in
theorem gL_law_X11_needs : GoodIn wsL_law (wsV RL 75 RX11 yX11_needs wsX11_needs) := goodIn_app (goodIn_of _ (by decide +kernel)) ggL_law_X11_needs
set_option maxRecDepth 20000 in
theorem ggL_law_X10_allBoiled : GoodIn wsL_law wsX10_allBoiled := goodIn_r _ [733, 19, 464, 521, 44, 734, 735, 736, 14, 737, 68, 399, 400, 401, 402, 465, 380, 381, 382, 522, 227, 228, 229, 65, 738, 739, 740, 43, 741, 742, 129, 743, 130, 125, 127, 126, 744, 476, 477, 478, 62, 406, 745, 746, 747, 748, 749, 750, 751, 752, 404, 405, 128, 753, 282, 283, 284, 754, 755, 756, 757, 758, 759, 760, 761, 1006, 1007, 1008, 1009, 1010, 1011, 1012, 1013, 1014, 1015, 1016, 1017, 1018, 1059, 1060, 1061, 1062, 1063, 1064, 1065, 1066, 1067, 1068, 1095, 1096, 1097, 1098, 1099, 1100] (by decide +kernel) (by decide +kernel)
set_option maxRecDepth 20000 in
theorem gL_law_X10_allBoiled : GoodIn wsL_law (wsV RL 76 RX10 yX10_allBoiled wsX10_allBoiled) := goodIn_app (goodIn_of _ (by decide +kernel)) ggL_law_X10_allBoiled
set_option maxRecDepth 20000 in
theorem ggL_law_X11_allBoiled : GoodIn wsL_law wsX11_allBoiled := goodIn_r _ [765, 316, 483, 173, 564, 766, 162, 161, 199, 200, 5, 201, 484, 485, 486, 487, 767, 768, 769, 770, 163, 151, 771, 772, 773, 1019, 1020, 1021, 1022, 1023, 1024, 1025, 1026, 1027, 1028, 1029, 1030, 1031, 1032, 1033, 1034, 1035, 1036, 1037, 1038, 1039, 1040, 1041, 1042, 1043, 1044, 1045, 1046, 1047, 1048, 1049, 1050, 1051, 1052, 1053, 1054, 1055, 1056, 1057, 1058] (by decide +kernel) (by decide +kernel)
set_option maxRecDepth 20000 in
theorem gL_law_X11_allBoiled : GoodIn wsL_law (wsV RL 79 RX11 yX11_allBoiled wsX11_allBoiled) := goodIn_app (goodIn_of _ (by decide +kernel)) ggL_law_X11_allBoiled
set_option maxRecDepth 20000 in
theorem ggL_law_X10_dynasty : GoodIn wsL_law wsX10_dynasty := goodIn_r _ [777, 178, 48, 24, 180, 181, 2, 182, 778, 779, 780, 47, 781, 135, 136, 137, 782, 372, 373, 23, 374, 375, 376, 377, 378, 83, 84, 379, 380, 381, 14, 382, 68, 783, 784, 785, 786, 787, 587, 588, 589, 590, 591, 592, 788, 412, 413, 414, 391, 392, 393, 394, 85, 415, 416, 417, 418, 419, 396, 397, 398, 61, 60, 399, 400, 401, 402, 403, 404, 405, 406, 420, 421, 422, 423, 1006, 1007, 1008, 1009, 1010, 1011, 1012, 1013, 1014, 1015, 1016, 1017, 1018, 1101, 1102, 1103, 1074, 1075, 1076, 1077, 1078, 1079, 1080, 1081, 1082, 1059, 1060, 1061, 1062, 1063, 1064, 1065, 1066, 1067, 1068] (by decide +kernel) (by decide +kernel)
set_option maxRecDepth 20000 in
theorem gL_law_X10_dynasty : GoodIn wsL_law (wsV RL 80 RX10 yX10_dynasty wsX10_dynasty) := goodIn_app (goodIn_of _ (by decide +kernel)) ggL_law_X10_dynasty
set_option maxRecDepth 20000 in
theorem ggL_law_X11_dynasty : GoodIn wsL_law wsX11_dynasty := goodIn_r _ [792, 793, 196, 199, 200, 5, 201, 794, 795, 796, 797, 316, 152, 432, 433, 434, 435, 798, 799, 800, 801, 771, 772, 773, 452, 453, 454, 455, 456, 457, 458, 459, 148, 444, 445, 446, 447, 147, 802, 803, 804, 1019, 1020, 1021, 1022, 1023, 1024, 1025, 1026, 1027, 1028, 1029, 1030, 1031, 1032, 1033, 1034, 1035, 1036, 1037, 1038, 1039, 1040, 1041, 1042, 1043, 1044, 1045, 1046, 1047, 1048, 1049, 1050, 1051, 1052, 1053, 1054, 1055, 1056, 1057, 1058] (by decide +kernel) (by decide +kernel)
set_option maxRecDepth 20000 in
theorem gL_law_X11_dynasty : GoodIn wsL_law (wsV RL 83 RX11 yX11_dynasty wsX11_dynasty) := goodIn_app (goodIn_of _ (by decide +kernel)) ggL_law_X11_dynasty
set_option maxRecDepth 20000 in
theorem ggL_law_X10_liked : GoodIn wsL_law wsX10_liked := goodIn_r _ [808, 19, 464, 52, 24, 492, 493, 494, 14, 495, 69, 809, 810, 811, 51, 812, 142, 813, 814, 815, 816, 817, 376, 377, 23, 378, 83, 84, 379, 380, 381, 382, 68, 818, 388, 389, 390, 391, 392, 393, 394, 85, 395, 396, 397, 398, 61, 60, 399, 400, 401, 402, 403, 404, 405, 406, 819, 497, 498, 499, 63, 500, 820, 502, 503, 504, 64, 181, 2, 182, 821, 822, 823, 824, 825, 826, 827, 828, 829, 830, 587, 588, 589, 590, 591, 592, 831, 832, 833, 834, 835, 836, 837, 838, 839, 1006, 1007, 1008, 1009, 1010, 1011, 1012, 1013, 1014, 1015, 1016, 1017, 1018, 1059, 1060, 1061, 1062, 1063, 1064, 1065, 1066, 1067, 1068, 1104, 1074, 1075, 1076, 1077, 1078, 1079, 1080, 1081, 1082] (by decide +kernel) (by decide +kernel)
set_option maxRecDepth 20000 in
theorem gL_law_X10_liked : GoodIn wsL_law (wsV RL 84 RX10 yX10_liked wsX10_liked) := goodIn_app (goodIn_of _ (by decide +kernel)) ggL_law_X10_liked
set_option maxRecDepth 20000 in
theorem ggL_law_X11_liked : GoodIn wsL_law wsX11_liked := goodIn_r _ [843, 483, 358, 165, 164, 509, 510, 511, 5, 512, 199, 200, 201, 844, 845, 846, 847, 848, 849, 850, 851, 316, 152, 149, 150, 440, 441, 442, 443, 444, 445, 446, 447, 148, 147, 771, 772, 773, 1019, 1020, 1021, 1022, 1023, 1024, 1025, 1026, 1027, 1028, 1029, 1030, 1031, 1032, 1033, 1034, 1035, 1036, 1037, 1038, 1039, 1040, 1041, 1042, 1043, 1044, 1045, 1046, 1047, 1048, 1049, 1050, 1051, 1052, 1053, 1054, 1055, 1056, 1057, 1058] (by decide +kernel) (by decide +kernel)
set_option maxRecDepth 20000 in
theorem gL_law_X11_liked : GoodIn wsL_law (wsV RL 87 RX11 yX11_liked wsX11_liked) := goodIn_app (goodIn_of _ (by decide +kernel)) ggL_law_X11_liked
set_option maxRecDepth 20000 in
theorem ggL_law_X10_goose : GoodIn wsL_law wsX10_goose := goodIn_r _ [855, 19, 464, 178, 492, 493, 494, 14, 495, 69, 180, 181, 2, 182, 1006, 1007, 1008, 1009, 1010, 1011, 1012, 1013, 1014, 1015, 1016, 1017, 1018, 1059, 1060, 1061, 1062, 1063, 1064, 1065, 1066, 1067, 1068] (by decide +kernel) (by decide +kernel)
set_option maxRecDepth 20000 in
theorem gL_law_X10_goose : GoodIn wsL_law (wsV RL 88 RX10 yX10_goose wsX10_goose) := goodIn_app (goodIn_of _ (by decide +kernel)) ggL_law_X10_goose
set_option maxRecDepth 20000 in
theorem ggL_law_X11_goose : GoodIn wsL_law wsX11_goose := goodIn_r _ [859, 483, 860, 358, 196, 509, 510, 511, 5, 512, 199, 200, 201, 1019, 1020, 1021, 1022, 1023, 1024, 1025, 1026, 1027, 1028, 1029, 1030, 1031, 1032, 1033, 1034, 1035, 1036, 1037, 1038, 1039, 1040, 1041, 1042, 1043, 1044, 1045, 1046, 1047, 1048, 1049, 1050, 1051, 1052, 1053, 1054, 1055, 1056, 1057, 1058] (by decide +kernel) (by decide +kernel)
set_option maxRecDepth 20000 in
theorem gL_law_X11_goose : GoodIn wsL_law (wsV RL 91 RX11 yX11_goose wsX11_goose) := goodIn_app (goodIn_of _ (by decide +kernel)) ggL_law_X11_goose
set_option maxRecDepth 20000 in
theorem ggL_law_X10_whole : GoodIn wsL_law wsX10_whole := goodIn_r _ [864, 178, 865, 866, 180, 181, 2, 182] (by decide +kernel) (by decide +kernel)
set_option maxRecDepth 20000 in
theorem gL_law_X10_whole : GoodIn wsL_law (wsV RL 92 RX10 yX10_whole wsX10_whole) := goodIn_app (goodIn_of _ (by decide +kernel)) ggL_law_X10_whole
set_option maxRecDepth 20000 in
theorem ggL_law_X11_whole : GoodIn wsL_law wsX11_whole := goodIn_r _ [870, 563, 871, 196, 872, 199, 200, 5, 201] (by decide +kernel) (by decide +kernel)
set_option maxRecDepth 20000 in
theorem gL_law_X11_whole : GoodIn wsL_law (wsV RL 95 RX11 yX11_whole wsX11_whole) := goodIn_app (goodIn_of _ (by decide +kernel)) ggL_law_X11_whole
set_option maxRecDepth 20000 in
theorem ggL_law_X10_see : GoodIn wsL_law wsX10_see := goodIn_r _ [876, 178, 36, 179, 180, 181, 2, 182, 877, 878, 879, 35, 880, 113, 111, 112, 1006, 1007, 1008, 1009, 1010, 1011, 1012, 1013, 1014, 1015, 1016, 1017, 1018, 1089, 1090, 1091] (by decide +kernel) (by decide +kernel)
set_option maxRecDepth 20000 in
theorem gL_law_X10_see : GoodIn wsL_law (wsV RL 96 RX10 yX10_see wsX10_see) := goodIn_app (goodIn_of _ (by decide +kernel)) ggL_law_X10_see
set_option maxRecDepth 20000 in
theorem ggL_law_X11_see : GoodIn wsL_law wsX11_see := goodIn_r _ [884, 885, 886, 196, 313, 198, 166, 167, 199, 200, 5, 201, 1019, 1020, 1021, 1022, 1023, 1024, 1025, 1026, 1027, 1028, 1029, 1030, 1031, 1032, 1033, 1034, 1035, 1036, 1037, 1038, 1039, 1040, 1041, 1042, 1043, 1044, 1045, 1046, 1047, 1048, 1049, 1050, 1051, 1052, 1053, 1054, 1055, 1056, 1057, 1058] (by decide +kernel) (by decide +kernel)
set_option maxRecDepth 20000 in
theorem gL_law_X11_see : GoodIn wsL_law (wsV RL 99 RX11 yX11_see wsX11_see) := goodIn_app (goodIn_of _ (by decide +kernel)) ggL_law_X11_see
set_option maxRecDepth 20000 in
theorem ggL_law_X10_ages : GoodIn wsL_law wsX10_ages := goodIn_r _ [890, 36, 891, 892, 893, 35, 894, 895, 896, 897, 898, 113, 111, 112, 1006, 1007, 1008, 1009, 1010, 1011, 1012, 1013, 1014, 1015, 1016, 1017, 1018, 1089, 1090, 1091] (by decide +kernel) (by decide +kernel)
set_option maxRecDepth 20000 in
theorem gL_law_X10_ages : GoodIn wsL_law (wsV RL 100 RX10 yX10_ages wsX10_ages) := goodIn_app (goodIn_of _ (by decide +kernel)) ggL_law_X10_ages
set_option maxRecDepth 20000 in
theorem ggL_law_X11_ages : GoodIn wsL_law wsX11_ages := goodIn_r _ [902, 903, 904, 905, 5, 906, 313, 166, 167, 1019, 1020, 1021, 1022, 1023, 1024, 1025, 1026, 1027, 1028, 1029, 1030, 1031, 1032, 1033, 1034, 1035, 1036, 1037, 1038, 1039, 1040, 1041, 1042, 1043, 1044, 1045, 1046, 1047, 1048, 1049, 1050, 1051, 1052, 1053, 1054, 1055, 1056, 1057, 1058] (by decide +kernel) (by decide +kernel)
set_option maxRecDepth 20000 in
theorem gL_law_X11_ages : GoodIn wsL_law (wsV RL 103 RX11 yX11_ages wsX11_ages) := goodIn_app (goodIn_of _ (by decide +kernel)) ggL_law_X11_ages
set_option maxRecDepth 20000 in
theorem ggL_law_X10_testNext : GoodIn wsL_law wsX10_testNext := goodIn_r _ [910, 36, 911, 912, 913, 35, 914, 915, 892, 893, 894, 895, 896, 897, 898, 113, 111, 112, 916, 587, 588, 589, 590, 591, 592, 917, 918, 919, 920, 404, 401, 405, 1006, 1007, 1008, 1009, 1010, 1011, 1012, 1013, 1014, 1015, 1016, 1017, 1018, 1089, 1090, 1091] (by decide +kernel) (by decide +kernel)
set_option maxRecDepth 20000 in
theorem gL_law_X10_testNext : GoodIn wsL_law (wsV RL 104 RX10 yX10_testNext wsX10_testNext) := goodIn_app (goodIn_of _ (by decide +kernel)) ggL_law_X10_testNext
set_option maxRecDepth 20000 in
theorem ggL_law_X11_testNext : GoodIn wsL_law wsX11_testNext := goodIn_r _ [924, 903, 904, 905, 5, 906, 313, 166, 167, 925, 926, 927, 928, 168, 1019, 1020, 1021, 1022, 1023, 1024, 1025, 1026, 1027, 1028, 1029, 1030, 1031, 1032, 1033, 1034, 1035, 1036, 1037, 1038, 1039, 1040, 1041, 1042, 1043, 1044, 1045, 1046, 1047, 1048, 1049, 1050, 1051, 1052, 1053, 1054, 1055, 1056, 1057, 1058] (by decide +kernel) (by decide +kernel)
set_option maxRecDepth 20000 in
theorem gL_law_X11_testNext : GoodIn wsL_law (wsV RL 107 RX11 yX11_testNext wsX11_testNext) := goodIn_app (goodIn_of _ (by decide +kernel)) ggL_law_X11_testNext
set_option maxRecDepth 20000 in
theorem ggL_law_X10_write : GoodIn wsL_law wsX10_write := goodIn_r _ [932, 19, 464, 178, 40, 179, 465, 380, 381, 14, 382, 68, 180, 181, 2, 182, 933, 934, 935, 39, 936, 120, 118, 119, 1006, 1007, 1008, 1009, 1010, 1011, 1012, 1013, 1014, 1015, 1016, 1017, 1018, 1092, 1093, 1094, 1059, 1060, 1061, 1062, 1063, 1064, 1065, 1066, 1067, 1068] (by decide +kernel) (by decide +kernel)
set_option maxRecDepth 20000 in
theorem gL_law_X10_write : GoodIn wsL_law (wsV RL 108 RX10 yX10_write wsX10_write) := goodIn_app (goodIn_of _ (by decide +kernel)) ggL_law_X10_write
set_option maxRecDepth 20000 in
theorem ggL_law_X11_write : GoodIn wsL_law wsX11_write := goodIn_r _ [940, 483, 941, 196, 314, 198, 169, 170, 484, 485, 486, 5, 487, 316, 199, 200, 201, 1019, 1020, 1021, 1022, 1023, 1024, 1025, 1026, 1027, 1028, 1029, 1030, 1031, 1032, 1033, 1034, 1035, 1036, 1037, 1038, 1039, 1040, 1041, 1042, 1043, 1044, 1045, 1046, 1047, 1048, 1049, 1050, 1051, 1052, 1053, 1054, 1055, 1056, 1057, 1058] (by decide +kernel) (by decide +kernel)
set_option maxRecDepth 20000 in
theorem gL_law_X11_write : GoodIn wsL_law (wsV RL 111 RX11 yX11_write wsX11_write) := goodIn_app (goodIn_of _ (by decide +kernel)) ggL_law_X11_write
set_option maxRecDepth 20000 in
theorem ggL_law_X10_tear : GoodIn wsL_law wsX10_tear := goodIn_r _ [945, 36, 40, 298, 299, 300, 35, 301, 113, 302, 303, 304, 39, 305, 120, 1006, 1007, 1008, 1009, 1010, 1011, 1012, 1013, 1014, 1015, 1016, 1017, 1018, 1089, 1090, 1091, 1092, 1093, 1094] (by decide +kernel) (by decide +kernel)
set_option maxRecDepth 20000 in
theorem gL_law_X10_tear : GoodIn wsL_law (wsV RL 112 RX10 yX10_tear wsX10_tear) := goodIn_app (goodIn_of _ (by decide +kernel)) ggL_law_X10_tear
set_option maxRecDepth 20000 in
theorem ggL_law_X11_tear : GoodIn wsL_law wsX11_tear := goodIn_r _ [949, 313, 314, 1019, 1020, 1021, 1022, 1023, 1024, 1025, 1026, 1027, 1028, 1029, 1030, 1031, 1032, 1033, 1034, 1035, 1036, 1037, 1038, 1039, 1040, 1041, 1042, 1043, 1044, 1045, 1046, 1047, 1048, 1049, 1050, 1051, 1052, 1053, 1054, 1055, 1056, 1057, 1058] (by decide +kernel) (by decide +kernel)
set_option maxRecDepth 20000 in
theorem gL_law_X11_tear : GoodIn wsL_law (wsV RL 115 RX11 yX11_tear wsX11_tear) := goodIn_app (goodIn_of _ (by decide +kernel)) ggL_law_X11_tear
set_option maxRecDepth 20000 in
theorem ggL_law_X10_judge : GoodIn wsL_law wsX10_judge := goodIn_r _ [953, 40, 24, 954, 955, 956, 39, 957, 120, 118, 119, 958, 376, 377, 23, 378, 83, 84, 379, 380, 381, 14, 382, 68, 1006, 1007, 1008, 1009, 1010, 1011, 1012, 1013, 1014, 1015, 1016, 1017, 1018, 1092, 1093, 1094, 1074, 1075, 1076, 1077, 1078, 1079, 1080, 1081, 1082, 1059, 1060, 1061, 1062, 1063, 1064, 1065, 1066, 1067, 1068] (by decide +kernel) (by decide +kernel)
set_option maxRecDepth 20000 in
theorem gL_law_X10_judge : GoodIn wsL_law (wsV RL 116 RX10 yX10_judge wsX10_judge) := goodIn_app (goodIn_of _ (by decide +kernel)) ggL_law_X10_judge
set_option maxRecDepth 20000 in
theorem ggL_law_X11_judge : GoodIn wsL_law wsX11_judge := goodIn_r _ [962, 314, 152, 169, 170, 1019, 1020, 1021, 1022, 1023, 1024, 1025, 1026, 1027, 1028, 1029, 1030, 1031, 1032, 1033, 1034, 1035, 1036, 1037, 1038, 1039, 1040, 1041, 1042, 1043, 1044, 1045, 1046, 1047, 1048, 1049, 1050, 1051, 1052, 1053, 1054, 1055, 1056, 1057, 1058] (by decide +kernel) (by decide +kernel)
set_option maxRecDepth 20000 in
theorem gL_law_X11_judge : GoodIn wsL_law (wsV RL 119 RX11 yX11_judge wsX11_judge) := goodIn_app (goodIn_of _ (by decide +kernel)) ggL_law_X11_judge
set_option maxRecDepth 20000 in
theorem ggL_law_X10_seed : GoodIn wsL_law wsX10_seed := goodIn_r _ [966, 178, 54, 1006, 1007, 1008, 1009, 1010, 1011, 1012, 1013, 1014, 1015, 1016, 1017, 1018] (by decide +kernel) (by decide +kernel)
set_option maxRecDepth 20000 in
theorem gL_law_X10_seed : GoodIn wsL_law (wsV RL 120 RX10 yX10_seed wsX10_seed) := goodIn_app (goodIn_of _ (by decide +kernel)) ggL_law_X10_seed
set_option maxRecDepth 20000 in
theorem ggL_law_X11_seed : GoodIn wsL_law wsX11_seed := goodIn_r _ [970, 196, 688, 1019, 1020, 1021, 1022, 1023, 1024, 1025, 1026, 1027, 1028, 1029, 1030, 1031, 1032, 1033, 1034, 1035, 1036, 1037, 1038, 1039, 1040, 1041, 1042, 1043, 1044, 1045, 1046, 1047, 1048, 1049, 1050, 1051, 1052, 1053, 1054, 1055, 1056, 1057, 1058] (by decide +kernel) (by decide +kernel)
set_option maxRecDepth 20000 in
theorem gL_law_X11_seed : GoodIn wsL_law (wsV RL 123 RX11 yX11_seed wsX11_seed) := goodIn_app (goodIn_of _ (by decide +kernel)) ggL_law_X11_seed
set_option maxRecDepth 20000 in
theorem ggL_law_X10_keep : GoodIn wsL_law wsX10_keep := goodIn_r _ [974, 464, 32, 24, 54, 28, 180, 181, 2, 182, 975, 976, 977, 31, 978, 103, 104, 106, 979, 528, 529, 23, 530, 84, 531, 282, 283, 284, 85, 86, 87, 88, 89, 90, 91, 532, 533, 534, 290, 291, 292, 27, 293, 97, 98, 1006, 1007, 1008, 1009, 1010, 1011, 1012, 1013, 1014, 1015, 1016, 1017, 1018, 1086, 1087, 1088, 1074, 1075, 1076, 1077, 1078, 1079, 1080, 1081, 1082, 1083, 1084, 1085] (by decide +kernel) (by decide +kernel)
set_option maxRecDepth 20000 in
theorem gL_law_X10_keep : GoodIn wsL_law (wsV RL 124 RX10 yX10_keep wsX10_keep) := goodIn_app (goodIn_of _ (by decide +kernel)) ggL_law_X10_keep
set_option maxRecDepth 20000 in
theorem ggL_law_X11_keep : GoodIn wsL_law wsX11_keep := goodIn_r _ [983, 483, 171, 152, 688, 172, 315, 199, 200, 5, 201, 1019, 1020, 1021, 1022, 1023, 1024, 1025, 1026, 1027, 1028, 1029, 1030, 1031, 1032, 1033, 1034, 1035, 1036, 1037, 1038, 1039, 1040, 1041, 1042, 1043, 1044, 1045, 1046, 1047, 1048, 1049, 1050, 1051, 1052, 1053, 1054, 1055, 1056, 1057, 1058] (by decide +kernel) (by decide +kernel)
set_option maxRecDepth 20000 in
theorem gL_law_X11_keep : GoodIn wsL_law (wsV RL 127 RX11 yX11_keep wsX11_keep) := goodIn_app (goodIn_of _ (by decide +kernel)) ggL_law_X11_keep
set_option maxRecDepth 20000 in
theorem ggL_law_X10_goBack : GoodIn wsL_law wsX10_goBack := goodIn_r _ [987, 464, 32, 521, 24, 54, 28, 180, 181, 2, 182, 988, 989, 990, 31, 991, 106, 992, 993, 994, 995, 103, 996, 997, 702, 703, 23, 704, 84, 531, 282, 283, 284, 85, 86, 87, 88, 89, 90, 91, 532, 533, 534, 998, 999, 1000, 1001, 104, 290, 291, 292, 27, 293, 97, 98, 1006, 1007, 1008, 1009, 1010, 1011, 1012, 1013, 1014, 1015, 1016, 1017, 1018, 1086, 1087, 1088, 1074, 1075, 1076, 1077, 1078, 1079, 1080, 1081, 1082, 1083, 1084, 1085] (by decide +kernel) (by decide +kernel)
set_option maxRecDepth 20000 in
theorem gL_law_X10_goBack : GoodIn wsL_law (wsV RL 128 RX10 yX10_goBack wsX10_goBack) := goodIn_app (goodIn_of _ (by decide +kernel)) ggL_law_X10_goBack
set_option maxRecDepth 20000 in
theorem ggL_law_X11_goBack : GoodIn wsL_law wsX11_goBack := goodIn_r _ [1005, 483, 172, 564, 152, 171, 688, 315, 199, 200, 5, 201, 1019, 1020, 1021, 1022, 1023, 1024, 1025, 1026, 1027, 1028, 1029, 1030, 1031, 1032, 1033, 1034, 1035, 1036, 1037, 1038, 1039, 1040, 1041, 1042, 1043, 1044, 1045, 1046, 1047, 1048, 1049, 1050, 1051, 1052, 1053, 1054, 1055, 1056, 1057, 1058] (by decide +kernel) (by decide +kernel)
set_option maxRecDepth 20000 in
theorem gL_law_X11_goBack : GoodIn wsL_law (wsV RL 131 RX11 yX11_goBack wsX11_goBack) := goodIn_app (goodIn_of _ (by decide +kernel)) ggL_law_X11_goBack

