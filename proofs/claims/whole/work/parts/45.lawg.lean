set_option maxRecDepth 20000 in
theorem ggL_law_X9_init : GoodIn wsL_law wsX9_init := goodIn_r _ [8, 9, 10, 11, 12, 13, 14, 15, 16, 17, 18, 19, 20, 21, 22, 23, 24, 25, 26, 27, 28, 29, 30, 31, 32, 33, 34, 35, 36, 37, 38, 39, 40, 41, 42, 43, 44, 45, 46, 47, 48, 49, 50, 51, 52, 53, 54, 55, 56, 57, 58, 59, 60, 61, 62, 63, 64, 65, 66, 67, 68, 69, 70, 71, 72, 73, 74, 75, 76, 77, 78, 79, 80, 81, 82, 83, 1029, 1030, 1031, 1032, 1033, 1034, 1035, 1036, 1037, 1038, 1039, 1073, 1074, 1075, 1076, 1077, 1078, 1079, 1080, 1081, 1082, 1083, 1084, 1085, 1086, 1087, 1088, 1089, 1090, 1091, 1092, 1093, 1094] (by decide +kernel) (by decide +kernel)
set_option maxRecDepth 20000 in
theorem gL_law_X9_init : GoodIn wsL_law (wsX9_init) := ggL_law_X9_init
set_option maxRecDepth 20000 in
theorem ggL_law_X10_init : GoodIn wsL_law wsX10_init := goodIn_r _ [86, 87, 10, 11, 35, 88, 89, 90, 91, 92, 93, 94, 95, 96, 97, 98, 99, 100, 101, 102, 103, 104, 105, 37, 106, 107, 1040, 1041, 1042, 1043, 1044, 1045, 1046, 1047, 1048, 1049, 1050, 1051, 1052, 1053, 1054, 1055, 1056, 1057, 1058, 1059, 1060, 1061, 1062, 1063, 1064, 1065, 1066, 1067, 1068, 1069, 1070, 1071, 1072] (by decide +kernel) (by decide +kernel)
set_option maxRecDepth 20000 in
theorem gL_law_X10_init : GoodIn wsL_law (wsX10_init) := ggL_law_X10_init
set_option maxRecDepth 20000 in
theorem ggL_law_X9_knife : GoodIn wsL_law wsX9_knife := goodIn_r _ [111, 14, 13, 12, 112, 113, 114, 115, 116, 117, 118, 119, 120, 121, 2, 122, 123, 124, 125, 126, 10, 11, 35, 127, 128, 129, 130, 131, 132, 133, 134, 135, 136, 137, 138, 139, 140, 141, 142, 143, 144, 145, 146, 147, 148, 149, 150, 151, 152, 153, 1029, 1030, 1031, 1032, 1033, 1034, 1035, 1036, 1037, 1038, 1039, 1095, 1096, 1097, 1098, 1099, 1100, 1101, 1102, 1103, 1104, 1105, 1106, 1107, 1108, 1109, 1110, 1111, 1112] (by decide +kernel) (by decide +kernel)
set_option maxRecDepth 20000 in
theorem gL_law_X9_knife : GoodIn wsL_law (wsV RL 13 RX9 yX9_knife wsX9_knife) := goodIn_app (goodIn_of _ (by decide +kernel)) ggL_law_X9_knife
set_option maxRecDepth 20000 in
theorem ggL_law_X10_knife : GoodIn wsL_law wsX10_knife := goodIn_r _ [157, 158, 91, 92, 93, 94, 159, 160, 5, 161, 1040, 1041, 1042, 1043, 1044, 1045, 1046, 1047, 1048, 1049, 1050, 1051, 1052, 1053, 1054, 1055, 1056, 1057, 1058, 1059, 1060, 1061, 1062, 1063, 1064, 1065, 1066, 1067, 1068, 1069, 1070, 1071, 1072] (by decide +kernel) (by decide +kernel)
set_option maxRecDepth 20000 in
theorem gL_law_X10_knife : GoodIn wsL_law (wsV RL 17 RX10 yX10_knife wsX10_knife) := goodIn_app (goodIn_of _ (by decide +kernel)) ggL_law_X10_knife
set_option maxRecDepth 20000 in
theorem ggL_law_X9_ofKnife : GoodIn wsL_law wsX9_ofKnife := goodIn_r _ [165, 166, 167, 168, 169, 170, 171, 172, 2, 173, 14, 13, 120, 121, 122, 174, 175, 176, 177, 178, 116, 179, 180, 181, 182, 183, 113, 184, 185, 119, 186, 1101, 1102, 1103, 1104, 1105, 1106, 1095, 1096, 1097, 1098, 1099, 1100, 1107, 1108, 1109, 1110, 1111, 1112, 1029, 1030, 1031, 1032, 1033, 1034, 1035, 1036, 1037, 1038, 1039] (by decide +kernel) (by decide +kernel)
set_option maxRecDepth 20000 in
theorem gL_law_X9_ofKnife : GoodIn wsL_law (wsV RL 18 RX9 yX9_ofKnife wsX9_ofKnife) := goodIn_app (goodIn_of _ (by decide +kernel)) ggL_law_X9_ofKnife
set_option maxRecDepth 20000 in
theorem ggL_law_X10_ofKnife : GoodIn wsL_law wsX10_ofKnife := goodIn_r _ [190, 91, 92, 93, 94, 191, 192, 193, 5, 194, 158, 195, 196, 197, 198, 1040, 1041, 1042, 1043, 1044, 1045, 1046, 1047, 1048, 1049, 1050, 1051, 1052, 1053, 1054, 1055, 1056, 1057, 1058, 1059, 1060, 1061, 1062, 1063, 1064, 1065, 1066, 1067, 1068, 1069, 1070, 1071, 1072] (by decide +kernel) (by decide +kernel)
set_option maxRecDepth 20000 in
theorem gL_law_X10_ofKnife : GoodIn wsL_law (wsV RL 22 RX10 yX10_ofKnife wsX10_ofKnife) := goodIn_app (goodIn_of _ (by decide +kernel)) ggL_law_X10_ofKnife
set_option maxRecDepth 20000 in
theorem ggL_law_X9_lies : GoodIn wsL_law wsX9_lies := goodIn_r _ [202, 203, 167, 166, 170, 171, 172, 2, 173, 14, 13, 120, 121, 122, 204, 205, 206, 207, 208, 209, 210, 113, 211, 136, 212, 213, 214, 215, 216, 217, 218, 219, 220, 221, 222, 223, 131, 224, 225, 226, 227, 1101, 1102, 1103, 1104, 1105, 1106, 1095, 1096, 1097, 1098, 1099, 1100, 1107, 1108, 1109, 1110, 1111, 1112, 1029, 1030, 1031, 1032, 1033, 1034, 1035, 1036, 1037, 1038, 1039] (by decide +kernel) (by decide +kernel)
set_option maxRecDepth 20000 in
theorem gL_law_X9_lies : GoodIn wsL_law (wsV RL 23 RX9 yX9_lies wsX9_lies) := goodIn_app (goodIn_of _ (by decide +kernel)) ggL_law_X9_lies
set_option maxRecDepth 20000 in
theorem ggL_law_X10_lies : GoodIn wsL_law wsX10_lies := goodIn_r _ [231, 232, 93, 92, 191, 192, 193, 5, 194, 158, 233, 234, 235, 159, 160, 161, 236, 237, 238, 239, 240, 241, 242, 243, 244, 245, 246, 247, 248, 249, 250, 1040, 1041, 1042, 1043, 1044, 1045, 1046, 1047, 1048, 1049, 1050, 1051, 1052, 1053, 1054, 1055, 1056, 1057, 1058, 1059, 1060, 1061, 1062, 1063, 1064, 1065, 1066, 1067, 1068, 1069, 1070, 1071, 1072] (by decide +kernel) (by decide +kernel)
set_option maxRecDepth 20000 in
theorem gL_law_X10_lies : GoodIn wsL_law (wsV RL 27 RX10 yX10_lies wsX10_lies) := goodIn_app (goodIn_of _ (by decide +kernel)) ggL_law_X10_lies
set_option maxRecDepth 20000 in
theorem ggL_law_X9_comes : GoodIn wsL_law wsX9_comes := goodIn_r _ [254, 167, 170, 171, 172, 2, 173, 14, 13, 120, 121, 122, 204, 205, 206, 255, 256, 257, 258, 113, 259, 127, 260, 208, 209, 210, 211, 136, 212, 213, 214, 215, 261, 217, 218, 262, 263, 264, 1101, 1102, 1103, 1104, 1105, 1106, 1095, 1096, 1097, 1098, 1099, 1100, 1107, 1108, 1109, 1110, 1111, 1112, 1029, 1030, 1031, 1032, 1033, 1034, 1035, 1036, 1037, 1038, 1039] (by decide +kernel) (by decide +kernel)
set_option maxRecDepth 20000 in
theorem gL_law_X9_comes : GoodIn wsL_law (wsV RL 28 RX9 yX9_comes wsX9_comes) := goodIn_app (goodIn_of _ (by decide +kernel)) ggL_law_X9_comes
set_option maxRecDepth 20000 in
theorem ggL_law_X10_comes : GoodIn wsL_law wsX10_comes := goodIn_r _ [268, 191, 192, 193, 5, 194, 158, 233, 234, 235, 159, 160, 161, 236, 237, 238, 269, 270, 271, 272, 93, 92, 242, 243, 244, 195, 196, 197, 198, 91, 94, 273, 274, 275, 276, 277, 278, 1040, 1041, 1042, 1043, 1044, 1045, 1046, 1047, 1048, 1049, 1050, 1051, 1052, 1053, 1054, 1055, 1056, 1057, 1058, 1059, 1060, 1061, 1062, 1063, 1064, 1065, 1066, 1067, 1068, 1069, 1070, 1071, 1072] (by decide +kernel) (by decide +kernel)
set_option maxRecDepth 20000 in
theorem gL_law_X10_comes : GoodIn wsL_law (wsV RL 32 RX10 yX10_comes wsX10_comes) := goodIn_app (goodIn_of _ (by decide +kernel)) ggL_law_X10_comes
set_option maxRecDepth 20000 in
theorem ggL_law_X9_sticks : GoodIn wsL_law wsX9_sticks := goodIn_r _ [282, 170, 171, 172, 2, 173, 14, 13, 120, 121, 122, 283, 284, 285, 286, 113, 287, 137, 288, 256, 257, 258, 259, 127, 260, 208, 209, 210, 211, 136, 212, 213, 214, 215, 261, 217, 218, 289, 263, 264, 290, 291, 292, 293, 294, 295, 296, 297, 298, 299, 119, 300, 301, 302, 303, 1029, 1030, 1031, 1032, 1033, 1034, 1035, 1036, 1037, 1038, 1039, 1101, 1102, 1103, 1104, 1105, 1106, 1095, 1096, 1097, 1098, 1099, 1100, 1107, 1108, 1109, 1110, 1111, 1112] (by decide +kernel) (by decide +kernel)
set_option maxRecDepth 20000 in
theorem gL_law_X9_sticks : GoodIn wsL_law (wsV RL 33 RX9 yX9_sticks wsX9_sticks) := goodIn_app (goodIn_of _ (by decide +kernel)) ggL_law_X9_sticks
set_option maxRecDepth 20000 in
theorem ggL_law_X10_sticks : GoodIn wsL_law wsX10_sticks := goodIn_r _ [307, 191, 192, 193, 5, 194, 158, 233, 234, 235, 159, 160, 161, 308, 309, 310, 311, 91, 269, 270, 271, 272, 93, 92, 242, 243, 244, 195, 196, 197, 198, 94, 273, 274, 275, 276, 277, 278, 1040, 1041, 1042, 1043, 1044, 1045, 1046, 1047, 1048, 1049, 1050, 1051, 1052, 1053, 1054, 1055, 1056, 1057, 1058, 1059, 1060, 1061, 1062, 1063, 1064, 1065, 1066, 1067, 1068, 1069, 1070, 1071, 1072] (by decide +kernel) (by decide +kernel)
set_option maxRecDepth 20000 in
theorem gL_law_X10_sticks : GoodIn wsL_law (wsV RL 36 RX10 yX10_sticks wsX10_sticks) := goodIn_app (goodIn_of _ (by decide +kernel)) ggL_law_X10_sticks
set_option maxRecDepth 20000 in
theorem ggL_law_X9_hand : GoodIn wsL_law wsX9_hand := goodIn_r _ [315, 36, 18, 316, 317, 318, 2, 319, 43, 320, 321, 322, 323, 324, 325, 120, 121, 122, 326, 327, 328, 329, 34, 330, 331, 332, 333, 334, 335, 336, 337, 33, 338, 77, 78, 339, 340, 341, 342, 79, 343, 344, 345, 346, 347, 348, 17, 349, 350, 351, 352, 353, 354, 355, 356, 357, 134, 131, 135, 358, 359, 360, 361, 47, 49, 48, 1029, 1030, 1031, 1032, 1033, 1034, 1035, 1036, 1037, 1038, 1039, 1090, 1091, 1092, 1093, 1073, 1074, 1075] (by decide +kernel) (by decide +kernel)
set_option maxRecDepth 20000 in
theorem gL_law_X9_hand : GoodIn wsL_law (wsV RL 37 RX9 yX9_hand wsX9_hand) := goodIn_app (goodIn_of _ (by decide +kernel)) ggL_law_X9_hand
set_option maxRecDepth 20000 in
theorem ggL_law_X10_hand : GoodIn wsL_law wsX10_hand := goodIn_r _ [365, 366, 367, 368, 369, 370, 95, 96, 371, 372, 5, 373, 159, 160, 161, 374, 375, 376, 377, 378, 379, 380, 88, 89, 381, 382, 383, 384, 385, 386, 387, 388, 389, 390, 391, 392, 90, 393, 394, 395, 396, 397, 398, 399, 400, 1040, 1041, 1042, 1043, 1044, 1045, 1046, 1047, 1048, 1049, 1050, 1051, 1052, 1053, 1054, 1055, 1056, 1057, 1058, 1059, 1060, 1061, 1062, 1063, 1064, 1065, 1066, 1067, 1068, 1069, 1070, 1071, 1072] (by decide +kernel) (by decide +kernel)
set_option maxRecDepth 20000 in
theorem gL_law_X10_hand : GoodIn wsL_law (wsV RL 40 RX10 yX10_hand wsX10_hand) := goodIn_app (goodIn_of _ (by decide +kernel)) ggL_law_X10_hand
set_option maxRecDepth 20000 in
theorem ggL_law_X9_weight : GoodIn wsL_law wsX9_weight := goodIn_r _ [404, 18, 405, 120, 121, 2, 122, 406, 407, 408, 409, 410, 411, 17, 412, 47, 413, 130, 131, 132, 1029, 1030, 1031, 1032, 1033, 1034, 1035, 1036, 1037, 1038, 1039, 1073, 1074, 1075] (by decide +kernel) (by decide +kernel)
set_option maxRecDepth 20000 in
theorem gL_law_X9_weight : GoodIn wsL_law (wsV RL 41 RX9 yX9_weight wsX9_weight) := goodIn_app (goodIn_of _ (by decide +kernel)) ggL_law_X9_weight
set_option maxRecDepth 20000 in
theorem ggL_law_X10_weight : GoodIn wsL_law wsX10_weight := goodIn_r _ [417, 368, 159, 160, 5, 161, 418, 419, 420, 421, 422, 423, 424, 95, 1040, 1041, 1042, 1043, 1044, 1045, 1046, 1047, 1048, 1049, 1050, 1051, 1052, 1053, 1054, 1055, 1056, 1057, 1058, 1059, 1060, 1061, 1062, 1063, 1064, 1065, 1066, 1067, 1068, 1069, 1070, 1071, 1072] (by decide +kernel) (by decide +kernel)
set_option maxRecDepth 20000 in
theorem gL_law_X10_weight : GoodIn wsL_law (wsV RL 44 RX10 yX10_weight wsX10_weight) := goodIn_app (goodIn_of _ (by decide +kernel)) ggL_law_X10_weight
set_option maxRecDepth 20000 in
theorem ggL_law_X9_stage : GoodIn wsL_law wsX9_stage := goodIn_r _ [428, 18, 405, 120, 121, 2, 122, 429, 430, 431, 17, 432, 49, 413, 130, 131, 132, 1029, 1030, 1031, 1032, 1033, 1034, 1035, 1036, 1037, 1038, 1039, 1073, 1074, 1075] (by decide +kernel) (by decide +kernel)
set_option maxRecDepth 20000 in
theorem gL_law_X9_stage : GoodIn wsL_law (wsV RL 45 RX9 yX9_stage wsX9_stage) := goodIn_app (goodIn_of _ (by decide +kernel)) ggL_law_X9_stage
set_option maxRecDepth 20000 in
theorem ggL_law_X10_stage : GoodIn wsL_law wsX10_stage := goodIn_r _ [436, 368, 159, 160, 5, 161, 437, 438, 439, 440, 370, 1040, 1041, 1042, 1043, 1044, 1045, 1046, 1047, 1048, 1049, 1050, 1051, 1052, 1053, 1054, 1055, 1056, 1057, 1058, 1059, 1060, 1061, 1062, 1063, 1064, 1065, 1066, 1067, 1068, 1069, 1070, 1071, 1072] (by decide +kernel) (by decide +kernel)
set_option maxRecDepth 20000 in
theorem gL_law_X10_stage : GoodIn wsL_law (wsV RL 49 RX10 yX10_stage wsX10_stage) := goodIn_app (goodIn_of _ (by decide +kernel)) ggL_law_X10_stage
set_option maxRecDepth 20000 in
theorem ggL_law_X9_likely : GoodIn wsL_law wsX9_likely := goodIn_r _ [444, 203, 18, 405, 170, 171, 172, 2, 173, 14, 13, 120, 121, 122, 204, 205, 206, 406, 407, 408, 445, 446, 447, 448, 283, 284, 285, 286, 113, 287, 137, 288, 256, 257, 258, 259, 127, 260, 208, 209, 210, 211, 136, 212, 213, 214, 215, 261, 217, 218, 289, 263, 264, 290, 291, 292, 293, 294, 295, 296, 297, 298, 299, 119, 300, 301, 302, 303, 409, 410, 411, 17, 412, 47, 413, 130, 131, 132, 449, 450, 451, 452, 453, 219, 220, 221, 222, 223, 224, 225, 226, 227, 1029, 1030, 1031, 1032, 1033, 1034, 1035, 1036, 1037, 1038, 1039, 1073, 1074, 1075, 1101, 1102, 1103, 1104, 1105, 1106, 1095, 1096, 1097, 1098, 1099, 1100, 1107, 1108, 1109, 1110, 1111, 1112] (by decide +kernel) (by decide +kernel)
set_option maxRecDepth 20000 in
theorem gL_law_X9_likely : GoodIn wsL_law (wsV RL 50 RX9 yX9_likely wsX9_likely) := goodIn_app (goodIn_of _ (by decide +kernel)) ggL_law_X9_likely
set_option maxRecDepth 20000 in
theorem ggL_law_X10_likely : GoodIn wsL_law wsX10_likely := goodIn_r _ [457, 368, 232, 191, 192, 193, 5, 194, 158, 233, 234, 235, 159, 160, 161, 236, 237, 238, 418, 419, 420, 239, 240, 241, 458, 459, 460, 461, 308, 309, 310, 311, 91, 269, 270, 271, 272, 93, 92, 242, 243, 244, 195, 196, 197, 198, 94, 273, 274, 275, 276, 277, 278, 421, 422, 423, 424, 95, 462, 463, 464, 465, 245, 246, 247, 248, 249, 250, 1040, 1041, 1042, 1043, 1044, 1045, 1046, 1047, 1048, 1049, 1050, 1051, 1052, 1053, 1054, 1055, 1056, 1057, 1058, 1059, 1060, 1061, 1062, 1063, 1064, 1065, 1066, 1067, 1068, 1069, 1070, 1071, 1072] (by decide +kernel) (by decide +kernel)
set_option maxRecDepth 20000 in
theorem gL_law_X10_likely : GoodIn wsL_law (wsV RL 54 RX10 yX10_likely wsX10_likely) := goodIn_app (goodIn_of _ (by decide +kernel)) ggL_law_X10_likely
set_option maxRecDepth 20000 in
theorem ggL_law_X9_best : GoodIn wsL_law wsX9_best := goodIn_r _ [469, 18, 405, 170, 171, 172, 2, 173, 14, 13, 120, 121, 122, 406, 407, 408, 445, 446, 447, 448, 283, 284, 285, 286, 113, 287, 137, 288, 256, 257, 258, 259, 127, 260, 208, 209, 210, 211, 136, 212, 213, 214, 215, 261, 217, 218, 289, 263, 264, 290, 291, 292, 293, 294, 295, 296, 297, 298, 299, 119, 300, 301, 302, 303, 409, 410, 411, 17, 412, 47, 413, 130, 131, 132, 1029, 1030, 1031, 1032, 1033, 1034, 1035, 1036, 1037, 1038, 1039, 1073, 1074, 1075, 1101, 1102, 1103, 1104, 1105, 1106, 1095, 1096, 1097, 1098, 1099, 1100, 1107, 1108, 1109, 1110, 1111, 1112] (by decide +kernel) (by decide +kernel)
set_option maxRecDepth 20000 in
theorem gL_law_X9_best : GoodIn wsL_law (wsV RL 55 RX9 yX9_best wsX9_best) := goodIn_app (goodIn_of _ (by decide +kernel)) ggL_law_X9_best
set_option maxRecDepth 20000 in
theorem ggL_law_X10_best : GoodIn wsL_law wsX10_best := goodIn_r _ [473, 368, 191, 192, 193, 5, 194, 158, 418, 419, 420, 159, 160, 161, 458, 459, 460, 461, 308, 309, 310, 311, 91, 269, 270, 271, 272, 93, 92, 242, 243, 244, 195, 196, 197, 198, 94, 273, 274, 275, 276, 277, 278, 421, 422, 423, 424, 95, 1040, 1041, 1042, 1043, 1044, 1045, 1046, 1047, 1048, 1049, 1050, 1051, 1052, 1053, 1054, 1055, 1056, 1057, 1058, 1059, 1060, 1061, 1062, 1063, 1064, 1065, 1066, 1067, 1068, 1069, 1070, 1071, 1072] (by decide +kernel) (by decide +kernel)
set_option maxRecDepth 20000 in
theorem gL_law_X10_best : GoodIn wsL_law (wsV RL 58 RX10 yX10_best wsX10_best) := goodIn_app (goodIn_of _ (by decide +kernel)) ggL_law_X10_best
set_option maxRecDepth 20000 in
theorem ggL_law_X9_board : GoodIn wsL_law wsX9_board := goodIn_r _ [477, 36, 22, 316, 317, 318, 2, 319, 43, 320, 321, 322, 323, 324, 325, 120, 121, 122, 326, 327, 328, 329, 34, 330, 331, 332, 333, 334, 335, 336, 337, 33, 338, 77, 78, 339, 340, 341, 342, 79, 343, 344, 345, 346, 478, 479, 21, 480, 481, 482, 483, 484, 485, 486, 487, 488, 489, 490, 54, 55, 53, 491, 492, 493, 494, 1029, 1030, 1031, 1032, 1033, 1034, 1035, 1036, 1037, 1038, 1039, 1090, 1091, 1092, 1093, 1076, 1077, 1078] (by decide +kernel) (by decide +kernel)
set_option maxRecDepth 20000 in
theorem gL_law_X9_board : GoodIn wsL_law (wsV RL 59 RX9 yX9_board wsX9_board) := goodIn_app (goodIn_of _ (by decide +kernel)) ggL_law_X9_board
set_option maxRecDepth 20000 in
theorem ggL_law_X10_board : GoodIn wsL_law wsX10_board := goodIn_r _ [498, 366, 367, 499, 500, 501, 502, 97, 98, 371, 372, 5, 373, 159, 160, 161, 374, 375, 376, 377, 378, 379, 380, 88, 89, 381, 382, 383, 384, 503, 504, 505, 506, 90, 389, 390, 391, 392, 397, 398, 399, 400, 507, 508, 509, 1040, 1041, 1042, 1043, 1044, 1045, 1046, 1047, 1048, 1049, 1050, 1051, 1052, 1053, 1054, 1055, 1056, 1057, 1058, 1059, 1060, 1061, 1062, 1063, 1064, 1065, 1066, 1067, 1068, 1069, 1070, 1071, 1072] (by decide +kernel) (by decide +kernel)
set_option maxRecDepth 20000 in
theorem gL_law_X10_board : GoodIn wsL_law (wsV RL 62 RX10 yX10_board wsX10_board) := goodIn_app (goodIn_of _ (by decide +kernel)) ggL_law_X10_board
set_option maxRecDepth 20000 in
theorem ggL_law_X9_ofCell : GoodIn wsL_law wsX9_ofCell := goodIn_r _ [513, 22, 514, 515, 516, 21, 517, 518, 492, 493, 494, 54, 55, 121, 2, 122, 519, 520, 521, 522, 523, 524, 525, 526, 527, 528, 529, 530, 53, 531, 1029, 1030, 1031, 1032, 1033, 1034, 1035, 1036, 1037, 1038, 1039, 1076, 1077, 1078] (by decide +kernel) (by decide +kernel)
set_option maxRecDepth 20000 in
theorem gL_law_X9_ofCell : GoodIn wsL_law (wsV RL 63 RX9 yX9_ofCell wsX9_ofCell) := goodIn_app (goodIn_of _ (by decide +kernel)) ggL_law_X9_ofCell
set_option maxRecDepth 20000 in
theorem ggL_law_X10_ofCell : GoodIn wsL_law wsX10_ofCell := goodIn_r _ [535, 97, 536, 537, 538, 5, 539, 500, 502, 1040, 1041, 1042, 1043, 1044, 1045, 1046, 1047, 1048, 1049, 1050, 1051, 1052, 1053, 1054, 1055, 1056, 1057, 1058, 1059, 1060, 1061, 1062, 1063, 1064, 1065, 1066, 1067, 1068, 1069, 1070, 1071, 1072] (by decide +kernel) (by decide +kernel)
set_option maxRecDepth 20000 in
theorem gL_law_X10_ofCell : GoodIn wsL_law (wsV RL 66 RX10 yX10_ofCell wsX10_ofCell) := goodIn_app (goodIn_of _ (by decide +kernel)) ggL_law_X10_ofCell
set_option maxRecDepth 20000 in
theorem ggL_law_X9_hurts : GoodIn wsL_law wsX9_hurts := goodIn_r _ [543, 22, 18, 405, 203, 514, 515, 516, 21, 517, 518, 492, 493, 494, 54, 55, 121, 2, 122, 406, 407, 408, 120, 544, 545, 546, 547, 519, 520, 521, 522, 523, 524, 525, 526, 548, 549, 550, 551, 552, 528, 529, 530, 53, 531, 409, 410, 411, 17, 412, 47, 413, 130, 131, 132, 553, 554, 555, 556, 449, 450, 451, 452, 453, 219, 220, 221, 222, 223, 224, 225, 226, 227, 1029, 1030, 1031, 1032, 1033, 1034, 1035, 1036, 1037, 1038, 1039, 1073, 1074, 1075, 1076, 1077, 1078] (by decide +kernel) (by decide +kernel)
set_option maxRecDepth 20000 in
theorem gL_law_X9_hurts : GoodIn wsL_law (wsV RL 67 RX9 yX9_hurts wsX9_hurts) := goodIn_app (goodIn_of _ (by decide +kernel)) ggL_law_X9_hurts
set_option maxRecDepth 20000 in
theorem ggL_law_X10_hurts : GoodIn wsL_law wsX10_hurts := goodIn_r _ [560, 368, 232, 536, 537, 538, 5, 539, 500, 502, 418, 419, 420, 159, 160, 161, 239, 240, 241, 561, 562, 563, 564, 99, 97, 565, 566, 567, 568, 569, 570, 571, 572, 573, 574, 575, 421, 422, 423, 424, 95, 576, 577, 578, 579, 462, 463, 464, 465, 245, 246, 247, 248, 249, 250, 1040, 1041, 1042, 1043, 1044, 1045, 1046, 1047, 1048, 1049, 1050, 1051, 1052, 1053, 1054, 1055, 1056, 1057, 1058, 1059, 1060, 1061, 1062, 1063, 1064, 1065, 1066, 1067, 1068, 1069, 1070, 1071, 1072] (by decide +kernel) (by decide +kernel)
set_option maxRecDepth 20000 in
theorem gL_law_X10_hurts : GoodIn wsL_law (wsV RL 71 RX10 yX10_hurts wsX10_hurts) := goodIn_app (goodIn_of _ (by decide +kernel)) ggL_law_X10_hurts
set_option maxRecDepth 20000 in
theorem ggL_law_X9_holds : GoodIn wsL_law wsX9_holds := goodIn_r _ [583, 22, 203, 18, 405, 170, 171, 172, 2, 173, 14, 13, 120, 121, 122, 514, 515, 516, 21, 517, 518, 492, 493, 494, 54, 55, 204, 205, 206, 406, 407, 408, 445, 446, 447, 448, 283, 284, 285, 286, 113, 287, 137, 288, 256, 257, 258, 259, 127, 260, 208, 209, 210, 211, 136, 212, 213, 214, 215, 261, 217, 218, 289, 263, 264, 290, 291, 292, 293, 294, 295, 296, 297, 298, 299, 119, 300, 301, 302, 303, 409, 410, 411, 17, 412, 47, 413, 130, 131, 132, 544, 545, 546, 547, 519, 520, 521, 522, 523, 524, 525, 526, 548, 549, 550, 551, 552, 528, 529, 530, 53, 531, 449, 450, 451, 452, 453, 553, 554, 555, 556, 219, 220, 221, 222, 223, 224, 225, 226, 227, 1029, 1030, 1031, 1032, 1033, 1034, 1035, 1036, 1037, 1038, 1039, 1073, 1074, 1075, 1076, 1077, 1078, 1101, 1102, 1103, 1104, 1105, 1106, 1095, 1096, 1097, 1098, 1099, 1100, 1107, 1108, 1109, 1110, 1111, 1112] (by decide +kernel) (by decide +kernel)
set_option maxRecDepth 20000 in
theorem gL_law_X9_holds : GoodIn wsL_law (wsV RL 72 RX9 yX9_holds wsX9_holds) := goodIn_app (goodIn_of _ (by decide +kernel)) ggL_law_X9_holds
set_option maxRecDepth 20000 in
theorem ggL_law_X10_holds : GoodIn wsL_law wsX10_holds := goodIn_r _ [587, 368, 232, 191, 192, 193, 5, 194, 158, 536, 537, 538, 539, 500, 502, 233, 234, 235, 159, 160, 161, 236, 237, 238, 418, 419, 420, 239, 240, 241, 561, 562, 563, 564, 99, 97, 458, 459, 460, 461, 308, 309, 310, 311, 91, 269, 270, 271, 272, 93, 92, 242, 243, 244, 195, 196, 197, 198, 94, 273, 274, 275, 276, 277, 278, 421, 422, 423, 424, 95, 565, 566, 567, 568, 569, 570, 571, 572, 573, 574, 575, 462, 463, 464, 465, 576, 577, 578, 579, 245, 246, 247, 248, 249, 250, 1040, 1041, 1042, 1043, 1044, 1045, 1046, 1047, 1048, 1049, 1050, 1051, 1052, 1053, 1054, 1055, 1056, 1057, 1058, 1059, 1060, 1061, 1062, 1063, 1064, 1065, 1066, 1067, 1068, 1069, 1070, 1071, 1072] (by decide +kernel) (by decide +kernel)
set_option maxRecDepth 20000 in
theorem gL_law_X10_holds : GoodIn wsL_law (wsV RL 76 RX10 yX10_holds wsX10_holds) := goodIn_app (goodIn_of _ (by decide +kernel)) ggL_law_X10_holds
set_option maxRecDepth 20000 in
theorem ggL_law_X9_allowed : GoodIn wsL_law wsX9_allowed := goodIn_r _ [591, 22, 592, 593, 594, 2, 595, 18, 405, 120, 121, 122, 406, 407, 408, 491, 492, 493, 21, 494, 54, 55, 596, 597, 598, 599, 519, 520, 521, 522, 523, 524, 525, 526, 527, 528, 529, 530, 53, 531, 515, 516, 517, 518, 544, 545, 546, 547, 548, 549, 550, 551, 552, 409, 410, 411, 17, 412, 47, 413, 130, 131, 132, 600, 601, 602, 603, 604, 553, 554, 555, 556, 449, 450, 451, 452, 453, 1029, 1030, 1031, 1032, 1033, 1034, 1035, 1036, 1037, 1038, 1039, 1073, 1074, 1075, 1076, 1077, 1078] (by decide +kernel) (by decide +kernel)
set_option maxRecDepth 20000 in
theorem gL_law_X9_allowed : GoodIn wsL_law (wsV RL 77 RX9 yX9_allowed wsX9_allowed) := goodIn_app (goodIn_of _ (by decide +kernel)) ggL_law_X9_allowed
set_option maxRecDepth 20000 in
theorem ggL_law_X10_allowed : GoodIn wsL_law wsX10_allowed := goodIn_r _ [608, 500, 502, 609, 610, 611, 5, 612, 368, 159, 160, 161, 418, 419, 420, 561, 562, 563, 564, 99, 97, 613, 614, 615, 616, 617, 618, 619, 620, 565, 566, 567, 568, 569, 570, 571, 572, 573, 574, 575, 421, 422, 423, 424, 95, 576, 577, 578, 579, 462, 463, 464, 465, 1040, 1041, 1042, 1043, 1044, 1045, 1046, 1047, 1048, 1049, 1050, 1051, 1052, 1053, 1054, 1055, 1056, 1057, 1058, 1059, 1060, 1061, 1062, 1063, 1064, 1065, 1066, 1067, 1068, 1069, 1070, 1071, 1072] (by decide +kernel) (by decide +kernel)
set_option maxRecDepth 20000 in
theorem gL_law_X10_allowed : GoodIn wsL_law (wsV RL 80 RX10 yX10_allowed wsX10_allowed) := goodIn_app (goodIn_of _ (by decide +kernel)) ggL_law_X10_allowed
set_option maxRecDepth 20000 in
theorem ggL_law_X9_nearest : GoodIn wsL_law wsX9_nearest := goodIn_r _ [624, 22, 592, 593, 594, 2, 595, 18, 405, 120, 121, 122, 406, 407, 408, 491, 492, 493, 21, 494, 54, 55, 625, 626, 627, 628, 629, 520, 521, 522, 630, 524, 525, 526, 631, 549, 550, 551, 552, 528, 529, 530, 53, 531, 515, 516, 517, 518, 596, 597, 598, 599, 519, 523, 527, 544, 545, 546, 547, 548, 409, 410, 411, 17, 412, 47, 413, 130, 131, 132, 600, 601, 602, 603, 604, 553, 554, 555, 556, 449, 450, 451, 452, 453, 1029, 1030, 1031, 1032, 1033, 1034, 1035, 1036, 1037, 1038, 1039, 1073, 1074, 1075, 1076, 1077, 1078] (by decide +kernel) (by decide +kernel)
set_option maxRecDepth 20000 in
theorem gL_law_X9_nearest : GoodIn wsL_law (wsV RL 81 RX9 yX9_nearest wsX9_nearest) := goodIn_app (goodIn_of _ (by decide +kernel)) ggL_law_X9_nearest
set_option maxRecDepth 20000 in
theorem ggL_law_X10_nearest : GoodIn wsL_law wsX10_nearest := goodIn_r _ [635, 500, 502, 609, 610, 611, 5, 612, 368, 159, 160, 161, 418, 419, 420, 561, 562, 563, 564, 99, 97, 613, 614, 615, 616, 617, 618, 619, 620, 565, 566, 567, 568, 569, 570, 571, 572, 573, 574, 575, 421, 422, 423, 424, 95, 576, 577, 578, 579, 462, 463, 464, 465, 636, 637, 638, 639, 1040, 1041, 1042, 1043, 1044, 1045, 1046, 1047, 1048, 1049, 1050, 1051, 1052, 1053, 1054, 1055, 1056, 1057, 1058, 1059, 1060, 1061, 1062, 1063, 1064, 1065, 1066, 1067, 1068, 1069, 1070, 1071, 1072] (by decide +kernel) (by decide +kernel)
set_option maxRecDepth 20000 in
theorem gL_law_X10_nearest : GoodIn wsL_law (wsV RL 84 RX10 yX10_nearest wsX10_nearest) := goodIn_app (goodIn_of _ (by decide +kernel)) ggL_law_X10_nearest
set_option maxRecDepth 20000 in
theorem ggL_law_X9_order : GoodIn wsL_law wsX9_order := goodIn_r _ [643, 43, 18, 405, 26, 36, 320, 321, 2, 322, 323, 324, 325, 120, 121, 122, 326, 327, 328, 329, 34, 330, 331, 332, 333, 334, 335, 336, 337, 33, 338, 77, 78, 339, 340, 341, 342, 79, 343, 344, 345, 346, 644, 645, 646, 647, 22, 514, 515, 516, 21, 517, 518, 492, 493, 494, 54, 55, 648, 649, 650, 25, 651, 652, 130, 131, 132, 653, 134, 135, 62, 59, 654, 655, 656, 657, 429, 430, 431, 17, 432, 49, 413, 658, 659, 660, 661, 662, 553, 554, 555, 556, 449, 450, 451, 452, 453, 410, 411, 412, 47, 544, 545, 546, 547, 519, 520, 521, 522, 523, 524, 525, 526, 548, 549, 550, 551, 552, 528, 529, 530, 53, 531, 409, 663, 664, 665, 666, 60, 667, 668, 669, 670, 61, 671, 672, 673, 674, 675, 676, 677, 678, 679, 680, 681, 682, 683, 684, 685, 686, 687, 688, 689, 690, 691, 692, 693, 1029, 1030, 1031, 1032, 1033, 1034, 1035, 1036, 1037, 1038, 1039, 1073, 1074, 1075, 1090, 1091, 1092, 1093, 1076, 1077, 1078, 1079, 1080, 1081, 1082] (by decide +kernel) (by decide +kernel)
set_option maxRecDepth 20000 in
theorem gL_law_X9_order : GoodIn wsL_law (wsV RL 85 RX9 yX9_order wsX9_order) := goodIn_app (goodIn_of _ (by decide +kernel)) ggL_law_X9_order
set_option maxRecDepth 20000 in
theorem ggL_law_X10_order : GoodIn wsL_law wsX10_order := goodIn_r _ [697, 366, 368, 698, 103, 371, 372, 5, 373, 159, 160, 161, 374, 375, 376, 377, 378, 379, 380, 88, 89, 381, 382, 383, 384, 699, 700, 701, 702, 90, 536, 537, 538, 539, 500, 502, 703, 704, 705, 706, 101, 707, 708, 709, 710, 100, 711, 561, 562, 563, 564, 99, 97, 437, 438, 439, 440, 370, 565, 566, 567, 568, 569, 570, 571, 572, 573, 574, 575, 421, 422, 423, 424, 95, 576, 577, 578, 579, 462, 463, 464, 465, 712, 713, 714, 715, 102, 716, 717, 718, 719, 720, 721, 722, 723, 1040, 1041, 1042, 1043, 1044, 1045, 1046, 1047, 1048, 1049, 1050, 1051, 1052, 1053, 1054, 1055, 1056, 1057, 1058, 1059, 1060, 1061, 1062, 1063, 1064, 1065, 1066, 1067, 1068, 1069, 1070, 1071, 1072] (by decide +kernel) (by decide +kernel)
set_option maxRecDepth 20000 in
theorem gL_law_X10_order : GoodIn wsL_law (wsV RL 89 RX10 yX10_order wsX10_order) := goodIn_app (goodIn_of _ (by decide +kernel)) ggL_law_X10_order
set_option maxRecDepth 20000 in
theorem ggL_law_X9_turned : GoodIn wsL_law wsX9_turned := goodIn_r _ [727, 22, 728, 514, 515, 516, 21, 517, 518, 492, 493, 494, 54, 55, 121, 2, 122, 120, 729, 730, 731, 732, 519, 520, 521, 522, 523, 524, 525, 526, 527, 528, 529, 530, 53, 531, 1029, 1030, 1031, 1032, 1033, 1034, 1035, 1036, 1037, 1038, 1039, 1076, 1077, 1078] (by decide +kernel) (by decide +kernel)
set_option maxRecDepth 20000 in
theorem gL_law_X9_turned : GoodIn wsL_law (wsV RL 90 RX9 yX9_turned wsX9_turned) := goodIn_app (goodIn_of _ (by decide +kernel)) ggL_law_X9_turned
set_option maxRecDepth 20000 in
theorem ggL_law_X10_turned : GoodIn wsL_law wsX10_turned := goodIn_r _ [736, 737, 536, 537, 538, 5, 539, 500, 502, 738, 739, 740, 159, 160, 161, 741, 742, 743, 744, 745, 746, 747, 748, 97, 1040, 1041, 1042, 1043, 1044, 1045, 1046, 1047, 1048, 1049, 1050, 1051, 1052, 1053, 1054, 1055, 1056, 1057, 1058, 1059, 1060, 1061, 1062, 1063, 1064, 1065, 1066, 1067, 1068, 1069, 1070, 1071, 1072] (by decide +kernel) (by decide +kernel)
set_option maxRecDepth 20000 in
theorem gL_law_X10_turned : GoodIn wsL_law (wsV RL 93 RX10 yX10_turned wsX10_turned) := goodIn_app (goodIn_of _ (by decide +kernel)) ggL_law_X10_turned
set_option maxRecDepth 20000 in
theorem ggL_law_X9_when : GoodIn wsL_law wsX9_when := goodIn_r _ [752, 22, 18, 405, 38, 170, 171, 172, 2, 173, 14, 13, 120, 121, 122, 514, 515, 516, 21, 517, 518, 492, 493, 494, 54, 55, 729, 730, 731, 732, 753, 754, 755, 756, 544, 545, 546, 547, 519, 520, 521, 522, 523, 524, 525, 526, 548, 549, 550, 551, 552, 528, 529, 530, 53, 531, 409, 410, 411, 17, 412, 47, 413, 130, 131, 132, 600, 601, 602, 603, 604, 553, 554, 555, 556, 449, 450, 451, 452, 453, 757, 758, 759, 760, 113, 761, 136, 762, 763, 764, 1029, 1030, 1031, 1032, 1033, 1034, 1035, 1036, 1037, 1038, 1039, 1073, 1074, 1075, 1076, 1077, 1078, 1101, 1102, 1103, 1104, 1105, 1106, 1095, 1096, 1097, 1098, 1099, 1100, 1107, 1108, 1109, 1110, 1111, 1112] (by decide +kernel) (by decide +kernel)
set_option maxRecDepth 20000 in
theorem gL_law_X9_when : GoodIn wsL_law (wsV RL 94 RX9 yX9_when wsX9_when) := goodIn_app (goodIn_of _ (by decide +kernel)) ggL_law_X9_when
set_option maxRecDepth 20000 in
theorem ggL_law_X10_when : GoodIn wsL_law wsX10_when := goodIn_r _ [768, 368, 92, 500, 502, 99, 191, 192, 193, 5, 194, 158, 536, 537, 538, 539, 236, 237, 238, 159, 160, 161, 738, 739, 740, 741, 742, 743, 744, 745, 746, 747, 748, 97, 617, 618, 619, 620, 565, 566, 567, 568, 569, 570, 571, 572, 573, 574, 575, 421, 422, 423, 424, 95, 576, 577, 578, 579, 462, 463, 464, 465, 1040, 1041, 1042, 1043, 1044, 1045, 1046, 1047, 1048, 1049, 1050, 1051, 1052, 1053, 1054, 1055, 1056, 1057, 1058, 1059, 1060, 1061, 1062, 1063, 1064, 1065, 1066, 1067, 1068, 1069, 1070, 1071, 1072] (by decide +kernel) (by decide +kernel)
set_option maxRecDepth 20000 in
theorem gL_law_X10_when : GoodIn wsL_law (wsV RL 98 RX10 yX10_when wsX10_when) := goodIn_app (goodIn_of _ (by decide +kernel)) ggL_law_X10_when
set_option maxRecDepth 20000 in
theorem ggL_law_X9_mark : GoodIn wsL_law wsX9_mark := goodIn_r _ [772, 30, 773, 120, 121, 2, 122, 774, 775, 776, 29, 777, 68, 66, 67, 1029, 1030, 1031, 1032, 1033, 1034, 1035, 1036, 1037, 1038, 1039, 1083, 1084, 1085, 1086, 1087, 1088, 1089] (by decide +kernel) (by decide +kernel)
set_option maxRecDepth 20000 in
theorem gL_law_X9_mark : GoodIn wsL_law (wsV RL 99 RX9 yX9_mark wsX9_mark) := goodIn_app (goodIn_of _ (by decide +kernel)) ggL_law_X9_mark
set_option maxRecDepth 20000 in
theorem ggL_law_X10_mark : GoodIn wsL_law wsX10_mark := goodIn_r _ [781, 782, 104, 105, 236, 237, 5, 238, 159, 160, 161, 1040, 1041, 1042, 1043, 1044, 1045, 1046, 1047, 1048, 1049, 1050, 1051, 1052, 1053, 1054, 1055, 1056, 1057, 1058, 1059, 1060, 1061, 1062, 1063, 1064, 1065, 1066, 1067, 1068, 1069, 1070, 1071, 1072] (by decide +kernel) (by decide +kernel)
set_option maxRecDepth 20000 in
theorem gL_law_X10_mark : GoodIn wsL_law (wsV RL 102 RX10 yX10_mark wsX10_mark) := goodIn_app (goodIn_of _ (by decide +kernel)) ggL_law_X10_mark
set_option maxRecDepth 20000 in
theorem ggL_law_X9_back : GoodIn wsL_law wsX9_back := goodIn_r _ [786, 30, 773, 120, 121, 2, 122, 1029, 1030, 1031, 1032, 1033, 1034, 1035, 1036, 1037, 1038, 1039, 1083, 1084, 1085, 1086, 1087, 1088, 1089] (by decide +kernel) (by decide +kernel)
set_option maxRecDepth 20000 in
theorem gL_law_X9_back : GoodIn wsL_law (wsV RL 103 RX9 yX9_back wsX9_back) := goodIn_app (goodIn_of _ (by decide +kernel)) ggL_law_X9_back
set_option maxRecDepth 20000 in
theorem ggL_law_X10_back : GoodIn wsL_law wsX10_back := goodIn_r _ [790, 782, 159, 160, 5, 161, 1040, 1041, 1042, 1043, 1044, 1045, 1046, 1047, 1048, 1049, 1050, 1051, 1052, 1053, 1054, 1055, 1056, 1057, 1058, 1059, 1060, 1061, 1062, 1063, 1064, 1065, 1066, 1067, 1068, 1069, 1070, 1071, 1072] (by decide +kernel) (by decide +kernel)
set_option maxRecDepth 20000 in
theorem gL_law_X10_back : GoodIn wsL_law (wsV RL 106 RX10 yX10_back wsX10_back) := goodIn_app (goodIn_of _ (by decide +kernel)) ggL_law_X10_back
set_option maxRecDepth 20000 in
theorem ggL_law_X9_guessed : GoodIn wsL_law wsX9_guessed := goodIn_r _ [794, 30, 795, 170, 171, 172, 2, 173, 14, 13, 120, 121, 122, 796, 797, 798, 29, 799, 72, 69, 70, 800, 801, 802, 803, 68, 66, 67, 804, 256, 257, 258, 113, 259, 127, 260, 208, 209, 210, 211, 136, 212, 213, 214, 215, 261, 217, 218, 805, 263, 264, 806, 807, 808, 809, 1029, 1030, 1031, 1032, 1033, 1034, 1035, 1036, 1037, 1038, 1039, 1083, 1084, 1085, 1086, 1087, 1088, 1089, 1101, 1102, 1103, 1104, 1105, 1106, 1095, 1096, 1097, 1098, 1099, 1100, 1107, 1108, 1109, 1110, 1111, 1112] (by decide +kernel) (by decide +kernel)
set_option maxRecDepth 20000 in
theorem gL_law_X9_guessed : GoodIn wsL_law (wsV RL 107 RX9 yX9_guessed wsX9_guessed) := goodIn_app (goodIn_of _ (by decide +kernel)) ggL_law_X9_guessed
set_option maxRecDepth 20000 in
theorem ggL_law_X10_guessed : GoodIn wsL_law wsX10_guessed := goodIn_r _ [813, 106, 191, 192, 193, 5, 194, 158, 159, 160, 161, 814, 815, 816, 817, 782, 104, 105, 818, 819, 820, 821, 92, 242, 243, 244, 195, 196, 197, 198, 91, 94, 273, 274, 275, 276, 277, 278, 1040, 1041, 1042, 1043, 1044, 1045, 1046, 1047, 1048, 1049, 1050, 1051, 1052, 1053, 1054, 1055, 1056, 1057, 1058, 1059, 1060, 1061, 1062, 1063, 1064, 1065, 1066, 1067, 1068, 1069, 1070, 1071, 1072] (by decide +kernel) (by decide +kernel)
set_option maxRecDepth 20000 in
theorem gL_law_X10_guessed : GoodIn wsL_law (wsV RL 110 RX10 yX10_guessed wsX10_guessed) := goodIn_app (goodIn_of _ (by decide +kernel)) ggL_law_X10_guessed
set_option maxRecDepth 20000 in
theorem ggL_law_X9_tells : GoodIn wsL_law wsX9_tells := goodIn_r _ [825, 30, 795, 170, 171, 172, 2, 173, 14, 13, 120, 121, 122, 796, 797, 798, 29, 799, 72, 69, 70, 800, 801, 802, 803, 68, 66, 67, 804, 256, 257, 258, 113, 259, 127, 260, 208, 209, 210, 211, 136, 212, 213, 214, 215, 261, 217, 218, 805, 263, 264, 826, 827, 828, 829, 71, 830, 134, 131, 135, 1029, 1030, 1031, 1032, 1033, 1034, 1035, 1036, 1037, 1038, 1039, 1083, 1084, 1085, 1086, 1087, 1088, 1089, 1101, 1102, 1103, 1104, 1105, 1106, 1095, 1096, 1097, 1098, 1099, 1100, 1107, 1108, 1109, 1110, 1111, 1112] (by decide +kernel) (by decide +kernel)
set_option maxRecDepth 20000 in
theorem gL_law_X9_tells : GoodIn wsL_law (wsV RL 111 RX9 yX9_tells wsX9_tells) := goodIn_app (goodIn_of _ (by decide +kernel)) ggL_law_X9_tells
set_option maxRecDepth 20000 in
theorem ggL_law_X10_tells : GoodIn wsL_law wsX10_tells := goodIn_r _ [834, 191, 192, 193, 5, 194, 158, 159, 160, 161, 814, 815, 816, 817, 782, 104, 105, 106, 818, 819, 820, 821, 92, 242, 243, 244, 195, 196, 197, 198, 91, 94, 273, 274, 275, 276, 277, 278, 835, 836, 837, 838, 107, 1040, 1041, 1042, 1043, 1044, 1045, 1046, 1047, 1048, 1049, 1050, 1051, 1052, 1053, 1054, 1055, 1056, 1057, 1058, 1059, 1060, 1061, 1062, 1063, 1064, 1065, 1066, 1067, 1068, 1069, 1070, 1071, 1072] (by decide +kernel) (by decide +kernel)
set_option maxRecDepth 20000 in
theorem gL_law_X10_tells : GoodIn wsL_law (wsV RL 114 RX10 yX10_tells wsX10_tells) := goodIn_app (goodIn_of _ (by decide +kernel)) ggL_law_X10_tells
set_option maxRecDepth 20000 in
theorem ggL_law_X9_chalk : GoodIn wsL_law wsX9_chalk := goodIn_r _ [842, 43, 203, 36, 843, 144, 131, 145, 844, 845, 846, 2, 847, 848, 320, 321, 322, 323, 324, 325, 120, 121, 122, 326, 327, 328, 329, 34, 330, 331, 332, 333, 334, 335, 336, 337, 33, 338, 77, 78, 339, 340, 341, 342, 79, 343, 344, 345, 346, 219, 220, 221, 222, 223, 224, 225, 226, 227, 1029, 1030, 1031, 1032, 1033, 1034, 1035, 1036, 1037, 1038, 1039, 1090, 1091, 1092, 1093] (by decide +kernel) (by decide +kernel)
set_option maxRecDepth 20000 in
theorem gL_law_X9_chalk : GoodIn wsL_law (wsV RL 115 RX9 yX9_chalk wsX9_chalk) := goodIn_app (goodIn_of _ (by decide +kernel)) ggL_law_X9_chalk
set_option maxRecDepth 20000 in
theorem ggL_law_X10_chalk : GoodIn wsL_law wsX10_chalk := goodIn_r _ [852, 366, 232, 90, 371, 372, 5, 373, 159, 160, 161, 374, 375, 376, 377, 378, 379, 380, 88, 89, 853, 854, 855, 856, 857, 858, 859, 860, 239, 240, 241, 245, 246, 247, 248, 249, 250, 1040, 1041, 1042, 1043, 1044, 1045, 1046, 1047, 1048, 1049, 1050, 1051, 1052, 1053, 1054, 1055, 1056, 1057, 1058, 1059, 1060, 1061, 1062, 1063, 1064, 1065, 1066, 1067, 1068, 1069, 1070, 1071, 1072] (by decide +kernel) (by decide +kernel)
set_option maxRecDepth 20000 in
theorem gL_law_X10_chalk : GoodIn wsL_law (wsV RL 118 RX10 yX10_chalk wsX10_chalk) := goodIn_app (goodIn_of _ (by decide +kernel)) ggL_law_X10_chalk
set_option maxRecDepth 20000 in
theorem ggL_law_X9_byChalk : GoodIn wsL_law wsX9_byChalk := goodIn_r _ [864, 43, 22, 203, 36, 514, 515, 516, 21, 517, 518, 492, 493, 494, 54, 55, 121, 2, 122, 844, 845, 846, 847, 848, 320, 321, 322, 323, 324, 325, 120, 326, 327, 328, 329, 34, 330, 331, 332, 333, 334, 335, 336, 337, 33, 338, 77, 78, 339, 340, 341, 342, 79, 343, 344, 345, 346, 519, 520, 521, 522, 523, 524, 525, 526, 548, 549, 550, 551, 552, 528, 529, 530, 53, 531, 219, 220, 221, 222, 223, 131, 224, 225, 226, 227, 1029, 1030, 1031, 1032, 1033, 1034, 1035, 1036, 1037, 1038, 1039, 1076, 1077, 1078, 1090, 1091, 1092, 1093] (by decide +kernel) (by decide +kernel)
set_option maxRecDepth 20000 in
theorem gL_law_X9_byChalk : GoodIn wsL_law (wsV RL 119 RX9 yX9_byChalk wsX9_byChalk) := goodIn_app (goodIn_of _ (by decide +kernel)) ggL_law_X9_byChalk
set_option maxRecDepth 20000 in
theorem ggL_law_X10_byChalk : GoodIn wsL_law wsX10_byChalk := goodIn_r _ [868, 366, 232, 90, 97, 536, 537, 538, 5, 539, 500, 502, 371, 372, 373, 159, 160, 161, 374, 375, 376, 377, 378, 379, 380, 88, 89, 853, 854, 855, 856, 857, 858, 859, 860, 239, 240, 241, 569, 570, 571, 572, 573, 574, 575, 245, 246, 247, 248, 249, 250, 1040, 1041, 1042, 1043, 1044, 1045, 1046, 1047, 1048, 1049, 1050, 1051, 1052, 1053, 1054, 1055, 1056, 1057, 1058, 1059, 1060, 1061, 1062, 1063, 1064, 1065, 1066, 1067, 1068, 1069, 1070, 1071, 1072] (by decide +kernel) (by decide +kernel)
set_option maxRecDepth 20000 in
theorem gL_law_X10_byChalk : GoodIn wsL_law (wsV RL 122 RX10 yX10_byChalk wsX10_byChalk) := goodIn_app (goodIn_of _ (by decide +kernel)) ggL_law_X10_byChalk
set_option maxRecDepth 20000 in
theorem ggL_law_X9_sheet : GoodIn wsL_law wsX9_sheet := goodIn_r _ [872, 43, 34, 320, 321, 2, 322, 323, 324, 325, 120, 121, 122, 343, 344, 345, 346, 873, 874, 875, 33, 876, 77, 78, 877, 130, 131, 132, 878, 134, 135, 79, 76, 1029, 1030, 1031, 1032, 1033, 1034, 1035, 1036, 1037, 1038, 1039, 1090, 1091, 1092, 1093] (by decide +kernel) (by decide +kernel)
set_option maxRecDepth 20000 in
theorem gL_law_X9_sheet : GoodIn wsL_law (wsV RL 123 RX9 yX9_sheet wsX9_sheet) := goodIn_app (goodIn_of _ (by decide +kernel)) ggL_law_X9_sheet
set_option maxRecDepth 20000 in
theorem ggL_law_X10_sheet : GoodIn wsL_law wsX10_sheet := goodIn_r _ [882, 366, 88, 89, 90, 371, 372, 5, 373, 159, 160, 161, 374, 375, 376, 381, 382, 383, 384, 1040, 1041, 1042, 1043, 1044, 1045, 1046, 1047, 1048, 1049, 1050, 1051, 1052, 1053, 1054, 1055, 1056, 1057, 1058, 1059, 1060, 1061, 1062, 1063, 1064, 1065, 1066, 1067, 1068, 1069, 1070, 1071, 1072] (by decide +kernel) (by decide +kernel)
set_option maxRecDepth 20000 in
theorem gL_law_X10_sheet : GoodIn wsL_law (wsV RL 126 RX10 yX10_sheet wsX10_sheet) := goodIn_app (goodIn_of _ (by decide +kernel)) ggL_law_X10_sheet
set_option maxRecDepth 20000 in
theorem ggL_law_X9_lose : GoodIn wsL_law wsX9_lose := goodIn_r _ [886, 34, 887, 323, 324, 2, 325, 120, 121, 122, 1029, 1030, 1031, 1032, 1033, 1034, 1035, 1036, 1037, 1038, 1039, 1090, 1091, 1092, 1093] (by decide +kernel) (by decide +kernel)
set_option maxRecDepth 20000 in
theorem gL_law_X9_lose : GoodIn wsL_law (wsV RL 127 RX9 yX9_lose wsX9_lose) := goodIn_app (goodIn_of _ (by decide +kernel)) ggL_law_X9_lose
set_option maxRecDepth 20000 in
theorem ggL_law_X10_lose : GoodIn wsL_law wsX10_lose := goodIn_r _ [891, 88, 371, 372, 5, 373, 159, 160, 161, 1040, 1041, 1042, 1043, 1044, 1045, 1046, 1047, 1048, 1049, 1050, 1051, 1052, 1053, 1054, 1055, 1056, 1057, 1058, 1059, 1060, 1061, 1062, 1063, 1064, 1065, 1066, 1067, 1068, 1069, 1070, 1071, 1072] (by decide +kernel) (by decide +kernel)
set_option maxRecDepth 20000 in
theorem gL_law_X10_lose : GoodIn wsL_law (wsV RL 130 RX10 yX10_lose wsX10_lose) := goodIn_app (goodIn_of _ (by decide +kernel)) ggL_law_X10_lose
set_option maxRecDepth 20000 in
theorem ggL_law_X9_put : GoodIn wsL_law wsX9_put := goodIn_r _ [895, 43, 34, 896, 323, 324, 2, 325, 120, 121, 122, 335, 336, 337, 33, 338, 77, 78, 339, 340, 341, 342, 79, 343, 344, 345, 346, 897, 898, 899, 900, 76, 1029, 1030, 1031, 1032, 1033, 1034, 1035, 1036, 1037, 1038, 1039, 1090, 1091, 1092, 1093] (by decide +kernel) (by decide +kernel)
set_option maxRecDepth 20000 in
theorem gL_law_X9_put : GoodIn wsL_law (wsV RL 131 RX9 yX9_put wsX9_put) := goodIn_app (goodIn_of _ (by decide +kernel)) ggL_law_X9_put
set_option maxRecDepth 20000 in
theorem ggL_law_X10_put : GoodIn wsL_law wsX10_put := goodIn_r _ [904, 366, 88, 89, 90, 371, 372, 5, 373, 159, 160, 161, 381, 382, 383, 384, 1040, 1041, 1042, 1043, 1044, 1045, 1046, 1047, 1048, 1049, 1050, 1051, 1052, 1053, 1054, 1055, 1056, 1057, 1058, 1059, 1060, 1061, 1062, 1063, 1064, 1065, 1066, 1067, 1068, 1069, 1070, 1071, 1072] (by decide +kernel) (by decide +kernel)
set_option maxRecDepth 20000 in
theorem gL_law_X10_put : GoodIn wsL_law (wsV RL 134 RX10 yX10_put wsX10_put) := goodIn_app (goodIn_of _ (by decide +kernel)) ggL_law_X10_put
set_option maxRecDepth 20000 in
theorem ggL_law_X9_cell : GoodIn wsL_law wsX9_cell := goodIn_r _ [908, 43, 203, 36, 320, 321, 2, 322, 323, 324, 325, 120, 121, 122, 326, 327, 328, 329, 34, 330, 331, 332, 333, 334, 335, 336, 337, 33, 338, 77, 78, 339, 340, 341, 342, 79, 343, 344, 345, 346, 1029, 1030, 1031, 1032, 1033, 1034, 1035, 1036, 1037, 1038, 1039, 1090, 1091, 1092, 1093] (by decide +kernel) (by decide +kernel)
set_option maxRecDepth 20000 in
theorem gL_law_X9_cell : GoodIn wsL_law (wsV RL 135 RX9 yX9_cell wsX9_cell) := goodIn_app (goodIn_of _ (by decide +kernel)) ggL_law_X9_cell
set_option maxRecDepth 20000 in
theorem ggL_law_X10_cell : GoodIn wsL_law wsX10_cell := goodIn_r _ [912, 366, 232, 88, 89, 90, 371, 372, 5, 373, 159, 160, 161, 374, 375, 376, 853, 854, 855, 856, 1040, 1041, 1042, 1043, 1044, 1045, 1046, 1047, 1048, 1049, 1050, 1051, 1052, 1053, 1054, 1055, 1056, 1057, 1058, 1059, 1060, 1061, 1062, 1063, 1064, 1065, 1066, 1067, 1068, 1069, 1070, 1071, 1072] (by decide +kernel) (by decide +kernel)
set_option maxRecDepth 20000 in
theorem gL_law_X10_cell : GoodIn wsL_law (wsV RL 139 RX10 yX10_cell wsX10_cell) := goodIn_app (goodIn_of _ (by decide +kernel)) ggL_law_X10_cell
set_option maxRecDepth 20000 in
theorem ggL_law_X9_copy : GoodIn wsL_law wsX9_copy := goodIn_r _ [916, 43, 34, 887, 896, 330, 331, 332, 333, 334, 323, 324, 2, 325, 120, 121, 122, 343, 344, 345, 346, 917, 340, 341, 33, 342, 79, 1029, 1030, 1031, 1032, 1033, 1034, 1035, 1036, 1037, 1038, 1039, 1090, 1091, 1092, 1093] (by decide +kernel) (by decide +kernel)
set_option maxRecDepth 20000 in
theorem gL_law_X9_copy : GoodIn wsL_law (wsV RL 140 RX9 yX9_copy wsX9_copy) := goodIn_app (goodIn_of _ (by decide +kernel)) ggL_law_X9_copy
set_option maxRecDepth 20000 in
theorem ggL_law_X10_copy : GoodIn wsL_law wsX10_copy := goodIn_r _ [921, 366, 88, 89, 90, 371, 372, 5, 373, 159, 160, 161, 381, 382, 383, 384, 1040, 1041, 1042, 1043, 1044, 1045, 1046, 1047, 1048, 1049, 1050, 1051, 1052, 1053, 1054, 1055, 1056, 1057, 1058, 1059, 1060, 1061, 1062, 1063, 1064, 1065, 1066, 1067, 1068, 1069, 1070, 1071, 1072] (by decide +kernel) (by decide +kernel)
set_option maxRecDepth 20000 in
theorem gL_law_X10_copy : GoodIn wsL_law (wsV RL 144 RX10 yX10_copy wsX10_copy) := goodIn_app (goodIn_of _ (by decide +kernel)) ggL_law_X10_copy
set_option maxRecDepth 20000 in
theorem ggL_law_X9_tell : GoodIn wsL_law wsX9_tell := goodIn_r _ [925, 42, 170, 171, 172, 2, 173, 14, 13, 120, 121, 122, 926, 927, 928, 929, 930, 116, 931, 932, 933, 934, 41, 935, 83, 936, 937, 938, 939, 113, 940, 136, 941, 942, 943, 944, 945, 946, 947, 948, 949, 950, 951, 952, 953, 954, 119, 955, 956, 957, 958, 959, 960, 961, 962, 1029, 1030, 1031, 1032, 1033, 1034, 1035, 1036, 1037, 1038, 1039, 1094, 1101, 1102, 1103, 1104, 1105, 1106, 1095, 1096, 1097, 1098, 1099, 1100, 1107, 1108, 1109, 1110, 1111, 1112] (by decide +kernel) (by decide +kernel)
set_option maxRecDepth 20000 in
theorem gL_law_X9_tell : GoodIn wsL_law (wsV RL 145 RX9 yX9_tell wsX9_tell) := goodIn_app (goodIn_of _ (by decide +kernel)) ggL_law_X9_tell
set_option maxRecDepth 20000 in
theorem ggL_law_X10_tell : GoodIn wsL_law wsX10_tell := goodIn_r _ [966, 92, 91, 191, 192, 193, 5, 194, 158, 967, 968, 969, 970, 971, 1040, 1041, 1042, 1043, 1044, 1045, 1046, 1047, 1048, 1049, 1050, 1051, 1052, 1053, 1054, 1055, 1056, 1057, 1058, 1059, 1060, 1061, 1062, 1063, 1064, 1065, 1066, 1067, 1068, 1069, 1070, 1071, 1072] (by decide +kernel) (by decide +kernel)
set_option maxRecDepth 20000 in
theorem gL_law_X10_tell : GoodIn wsL_law (wsV RL 148 RX10 yX10_tell wsX10_tell) := goodIn_app (goodIn_of _ (by decide +kernel)) ggL_law_X10_tell
set_option maxRecDepth 20000 in
theorem ggL_law_X9_whet : GoodIn wsL_law wsX9_whet := goodIn_r _ [975, 42, 170, 171, 172, 2, 173, 14, 13, 120, 121, 122, 976, 977, 978, 979, 113, 980, 128, 941, 933, 934, 41, 935, 83, 981, 982, 983, 984, 985, 119, 986, 956, 1029, 1030, 1031, 1032, 1033, 1034, 1035, 1036, 1037, 1038, 1039, 1101, 1102, 1103, 1104, 1105, 1106, 1095, 1096, 1097, 1098, 1099, 1100, 1107, 1108, 1109, 1110, 1111, 1112, 1094] (by decide +kernel) (by decide +kernel)
set_option maxRecDepth 20000 in
theorem gL_law_X9_whet : GoodIn wsL_law (wsV RL 149 RX9 yX9_whet wsX9_whet) := goodIn_app (goodIn_of _ (by decide +kernel)) ggL_law_X9_whet
set_option maxRecDepth 20000 in
theorem ggL_law_X10_whet : GoodIn wsL_law wsX10_whet := goodIn_r _ [990, 91, 191, 192, 193, 5, 194, 158, 967, 968, 969, 970, 971, 1040, 1041, 1042, 1043, 1044, 1045, 1046, 1047, 1048, 1049, 1050, 1051, 1052, 1053, 1054, 1055, 1056, 1057, 1058, 1059, 1060, 1061, 1062, 1063, 1064, 1065, 1066, 1067, 1068, 1069, 1070, 1071, 1072] (by decide +kernel) (by decide +kernel)
set_option maxRecDepth 20000 in
theorem gL_law_X10_whet : GoodIn wsL_law (wsV RL 152 RX10 yX10_whet wsX10_whet) := goodIn_app (goodIn_of _ (by decide +kernel)) ggL_law_X10_whet
set_option maxRecDepth 20000 in
theorem ggL_law_X9_as : GoodIn wsL_law wsX9_as := goodIn_r _ [994, 43, 995, 996, 170, 171, 172, 2, 173, 14, 13, 120, 121, 122, 343, 344, 345, 346, 1029, 1030, 1031, 1032, 1033, 1034, 1035, 1036, 1037, 1038, 1039] (by decide +kernel) (by decide +kernel)
set_option maxRecDepth 20000 in
theorem gL_law_X9_as : GoodIn wsL_law (wsV RL 153 RX9 yX9_as wsX9_as) := goodIn_app (goodIn_of _ (by decide +kernel)) ggL_law_X9_as
set_option maxRecDepth 20000 in
theorem ggL_law_X10_as : GoodIn wsL_law wsX10_as := goodIn_r _ [1000, 366, 91, 191, 192, 193, 5, 194, 158, 159, 160, 161, 381, 382, 383, 384, 1040, 1041, 1042, 1043, 1044, 1045, 1046, 1047, 1048, 1049, 1050, 1051, 1052, 1053, 1054, 1055, 1056, 1057, 1058, 1059, 1060, 1061, 1062, 1063, 1064, 1065, 1066, 1067, 1068, 1069, 1070, 1071, 1072] (by decide +kernel) (by decide +kernel)
set_option maxRecDepth 20000 in
theorem gL_law_X10_as : GoodIn wsL_law (wsV RL 156 RX10 yX10_as wsX10_as) := goodIn_app (goodIn_of _ (by decide +kernel)) ggL_law_X10_as
set_option maxRecDepth 20000 in
theorem ggL_law_X9_trace : GoodIn wsL_law wsX9_trace := goodIn_r _ [1004, 42, 1005, 1029, 1030, 1031, 1032, 1033, 1034, 1035, 1036, 1037, 1038, 1039, 1094] (by decide +kernel) (by decide +kernel)
set_option maxRecDepth 20000 in
theorem gL_law_X9_trace : GoodIn wsL_law (wsV RL 157 RX9 yX9_trace wsX9_trace) := goodIn_app (goodIn_of _ (by decide +kernel)) ggL_law_X9_trace
set_option maxRecDepth 20000 in
theorem ggL_law_X10_trace : GoodIn wsL_law wsX10_trace := goodIn_r _ [1009, 971, 1040, 1041, 1042, 1043, 1044, 1045, 1046, 1047, 1048, 1049, 1050, 1051, 1052, 1053, 1054, 1055, 1056, 1057, 1058, 1059, 1060, 1061, 1062, 1063, 1064, 1065, 1066, 1067, 1068, 1069, 1070, 1071, 1072] (by decide +kernel) (by decide +kernel)
set_option maxRecDepth 20000 in
theorem gL_law_X10_trace : GoodIn wsL_law (wsV RL 161 RX10 yX10_trace wsX10_trace) := goodIn_app (goodIn_of _ (by decide +kernel)) ggL_law_X10_trace
set_option maxRecDepth 20000 in
theorem ggL_law_X9_fault : GoodIn wsL_law wsX9_fault := goodIn_r _ [1013, 43, 1029, 1030, 1031, 1032, 1033, 1034, 1035, 1036, 1037, 1038, 1039] (by decide +kernel) (by decide +kernel)
set_option maxRecDepth 20000 in
theorem gL_law_X9_fault : GoodIn wsL_law (wsV RL 162 RX9 yX9_fault wsX9_fault) := goodIn_app (goodIn_of _ (by decide +kernel)) ggL_law_X9_fault
set_option maxRecDepth 20000 in
theorem ggL_law_X10_fault : GoodIn wsL_law wsX10_fault := goodIn_r _ [1017, 366, 1040, 1041, 1042, 1043, 1044, 1045, 1046, 1047, 1048, 1049, 1050, 1051, 1052, 1053, 1054, 1055, 1056, 1057, 1058, 1059, 1060, 1061, 1062, 1063, 1064, 1065, 1066, 1067, 1068, 1069, 1070, 1071, 1072] (by decide +kernel) (by decide +kernel)
set_option maxRecDepth 20000 in
theorem gL_law_X10_fault : GoodIn wsL_law (wsV RL 165 RX10 yX10_fault wsX10_fault) := goodIn_app (goodIn_of _ (by decide +kernel)) ggL_law_X10_fault
set_option maxRecDepth 20000 in
theorem ggL_law_X9_many : GoodIn wsL_law wsX9_many := goodIn_r _ [1021, 14, 22, 1022, 1023, 30, 773, 18, 1024, 491, 492, 493, 21, 494, 54, 55, 1029, 1030, 1031, 1032, 1033, 1034, 1035, 1036, 1037, 1038, 1039, 1076, 1077, 1078, 1083, 1084, 1085, 1086, 1087, 1088, 1089, 1073, 1074, 1075] (by decide +kernel) (by decide +kernel)
set_option maxRecDepth 20000 in
theorem gL_law_X9_many : GoodIn wsL_law (wsV RL 166 RX9 yX9_many wsX9_many) := goodIn_app (goodIn_of _ (by decide +kernel)) ggL_law_X9_many
set_option maxRecDepth 20000 in
theorem ggL_law_X10_many : GoodIn wsL_law wsX10_many := goodIn_r _ [1028, 158, 500, 502, 782, 370, 1040, 1041, 1042, 1043, 1044, 1045, 1046, 1047, 1048, 1049, 1050, 1051, 1052, 1053, 1054, 1055, 1056, 1057, 1058, 1059, 1060, 1061, 1062, 1063, 1064, 1065, 1066, 1067, 1068, 1069, 1070, 1071, 1072] (by decide +kernel) (by decide +kernel)
set_option maxRecDepth 20000 in
theorem gL_law_X10_many : GoodIn wsL_law (wsV RL 169 RX10 yX10_many wsX10_many) := goodIn_app (goodIn_of _ (by decide +kernel)) ggL_law_X10_many
