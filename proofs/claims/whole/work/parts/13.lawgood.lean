set_option maxRecDepth 20000 in
theorem ggL_law_X8_init : GoodIn wsL_law wsX8_init := goodIn_r _ [9, 10, 11, 12, 13, 14, 15, 16, 17, 18, 19, 20, 21, 22, 23, 24, 25, 26, 27, 28, 29, 30, 31, 32, 33, 34, 35, 36, 37, 38, 39, 40, 41, 42, 43, 44, 45, 46, 47, 48, 49, 50, 51, 52, 53, 54, 55, 56, 57, 58, 59, 60, 61, 62, 63, 64, 65, 66, 67, 68, 69, 70, 71, 72, 73, 74, 75, 76, 77, 78, 79, 80, 81, 82, 83, 84, 85, 86, 87, 88, 89, 90, 91, 92, 93, 94, 95, 96, 97, 1057, 1058, 1059, 1060, 1061, 1062, 1063, 1064, 1065, 1066, 1067, 1068, 1069, 1024, 1025, 1026, 1027, 1028, 1029, 1030, 1031, 1070, 1071, 1072, 1073, 1074, 1075, 1076, 1077, 1078, 1079, 1080, 1081, 1082, 1083, 1084, 1085, 1086, 1087, 1088, 1089, 1090, 1091, 1092, 1093, 1094, 1095, 1096, 1097, 1098, 1099, 1100, 1101, 1102] (by decide +kernel) (by decide +kernel)
set_option maxRecDepth 20000 in
theorem gL_law_X8_init : GoodIn wsL_law (wsX8_init) := ggL_law_X8_init
set_option maxRecDepth 20000 in
theorem ggL_law_X9_init : GoodIn wsL_law wsX9_init := goodIn_r _ [100, 101, 11, 12, 32, 102, 103, 104, 105, 106, 107, 108, 109, 110, 111, 112, 113, 114, 115, 116, 117, 1032, 1033, 1034, 1035, 1036, 1037, 1038, 1039, 1040, 1041, 1042, 1043, 1044, 1045, 1046, 1047, 1048, 1049, 1050, 1051, 1052, 1053, 1054, 1055, 1056] (by decide +kernel) (by decide +kernel)
set_option maxRecDepth 20000 in
theorem gL_law_X9_init : GoodIn wsL_law (wsX9_init) := ggL_law_X9_init
set_option maxRecDepth 20000 in
theorem ggL_law_X8_reader : GoodIn wsL_law wsX8_reader := goodIn_r _ [121, 16, 122, 123, 124, 125, 126, 127, 2, 128, 129, 130, 131, 132, 33, 133, 1024, 1025, 1026, 1027, 1028, 1029, 1030, 1031, 1057, 1058, 1059, 1060, 1061, 1062, 1063, 1064, 1065, 1066, 1067, 1068, 1069] (by decide +kernel) (by decide +kernel)
set_option maxRecDepth 20000 in
theorem gL_law_X8_reader : GoodIn wsL_law (wsV RL 13 RX8 yX8_reader wsX8_reader) := goodIn_app (goodIn_of _ (by decide +kernel)) ggL_law_X8_reader
set_option maxRecDepth 20000 in
theorem ggL_law_X9_reader : GoodIn wsL_law wsX9_reader := goodIn_r _ [137, 102, 138, 139, 5, 140, 141, 142, 143, 144, 145, 146, 147, 105, 148, 149, 150, 151, 152, 1032, 1033, 1034, 1035, 1036, 1037, 1038, 1039, 1040, 1041, 1042, 1043, 1044, 1045, 1046, 1047, 1048, 1049, 1050, 1051, 1052, 1053, 1054, 1055, 1056] (by decide +kernel) (by decide +kernel)
set_option maxRecDepth 20000 in
theorem gL_law_X9_reader : GoodIn wsL_law (wsV RL 17 RX9 yX9_reader wsX9_reader) := goodIn_app (goodIn_of _ (by decide +kernel)) ggL_law_X9_reader
set_option maxRecDepth 20000 in
theorem ggL_law_X8_readerIs : GoodIn wsL_law wsX8_readerIs := goodIn_r _ [156, 16, 123, 124, 125, 157, 158, 159, 160, 2, 161, 122, 126, 127, 128, 129, 130, 131, 132, 33, 133, 162, 163, 164, 165, 166, 167, 1024, 1025, 1026, 1027, 1028, 1029, 1030, 1031, 1057, 1058, 1059, 1060, 1061, 1062, 1063, 1064, 1065, 1066, 1067, 1068, 1069, 1092, 1093, 1094, 1095] (by decide +kernel) (by decide +kernel)
set_option maxRecDepth 20000 in
theorem gL_law_X8_readerIs : GoodIn wsL_law (wsV RL 18 RX8 yX8_readerIs wsX8_readerIs) := goodIn_app (goodIn_of _ (by decide +kernel)) ggL_law_X8_readerIs
set_option maxRecDepth 20000 in
theorem ggL_law_X9_readerIs : GoodIn wsL_law wsX9_readerIs := goodIn_r _ [171, 172, 173, 174, 5, 175, 102, 141, 142, 143, 144, 145, 146, 147, 105, 148, 176, 177, 178, 179, 180, 181, 182, 183, 1032, 1033, 1034, 1035, 1036, 1037, 1038, 1039, 1040, 1041, 1042, 1043, 1044, 1045, 1046, 1047, 1048, 1049, 1050, 1051, 1052, 1053, 1054, 1055, 1056] (by decide +kernel) (by decide +kernel)
set_option maxRecDepth 20000 in
theorem gL_law_X9_readerIs : GoodIn wsL_law (wsV RL 22 RX9 yX9_readerIs wsX9_readerIs) := goodIn_app (goodIn_of _ (by decide +kernel)) ggL_law_X9_readerIs
set_option maxRecDepth 20000 in
theorem ggL_law_X8_become : GoodIn wsL_law wsX8_become := goodIn_r _ [187, 16, 123, 124, 158, 159, 160, 2, 161, 122, 126, 127, 128, 129, 130, 131, 132, 33, 133, 1024, 1025, 1026, 1027, 1028, 1029, 1030, 1031, 1057, 1058, 1059, 1060, 1061, 1062, 1063, 1064, 1065, 1066, 1067, 1068, 1069] (by decide +kernel) (by decide +kernel)
set_option maxRecDepth 20000 in
theorem gL_law_X8_become : GoodIn wsL_law (wsV RL 23 RX8 yX8_become wsX8_become) := goodIn_app (goodIn_of _ (by decide +kernel)) ggL_law_X8_become
set_option maxRecDepth 20000 in
theorem ggL_law_X9_become : GoodIn wsL_law wsX9_become := goodIn_r _ [191, 172, 173, 174, 5, 175, 102, 141, 142, 143, 138, 139, 140, 144, 145, 146, 147, 105, 148, 180, 181, 182, 183, 149, 150, 151, 152, 1032, 1033, 1034, 1035, 1036, 1037, 1038, 1039, 1040, 1041, 1042, 1043, 1044, 1045, 1046, 1047, 1048, 1049, 1050, 1051, 1052, 1053, 1054, 1055, 1056] (by decide +kernel) (by decide +kernel)
set_option maxRecDepth 20000 in
theorem gL_law_X9_become : GoodIn wsL_law (wsV RL 26 RX9 yX9_become wsX9_become) := goodIn_app (goodIn_of _ (by decide +kernel)) ggL_law_X9_become
set_option maxRecDepth 20000 in
theorem ggL_law_X8_as : GoodIn wsL_law wsX8_as := goodIn_r _ [195, 16, 123, 124, 158, 159, 160, 2, 161, 122, 126, 127, 128, 129, 130, 131, 132, 33, 133, 196, 197, 164, 198, 199, 200, 201, 202, 1024, 1025, 1026, 1027, 1028, 1029, 1030, 1031, 1057, 1058, 1059, 1060, 1061, 1062, 1063, 1064, 1065, 1066, 1067, 1068, 1069] (by decide +kernel) (by decide +kernel)
set_option maxRecDepth 20000 in
theorem gL_law_X8_as : GoodIn wsL_law (wsV RL 27 RX8 yX8_as wsX8_as) := goodIn_app (goodIn_of _ (by decide +kernel)) ggL_law_X8_as
set_option maxRecDepth 20000 in
theorem ggL_law_X9_as : GoodIn wsL_law wsX9_as := goodIn_r _ [206, 172, 173, 174, 5, 175, 102, 141, 142, 143, 144, 145, 146, 147, 105, 148, 180, 181, 182, 183, 207, 208, 209, 1032, 1033, 1034, 1035, 1036, 1037, 1038, 1039, 1040, 1041, 1042, 1043, 1044, 1045, 1046, 1047, 1048, 1049, 1050, 1051, 1052, 1053, 1054, 1055, 1056] (by decide +kernel) (by decide +kernel)
set_option maxRecDepth 20000 in
theorem gL_law_X9_as : GoodIn wsL_law (wsV RL 30 RX9 yX9_as wsX9_as) := goodIn_app (goodIn_of _ (by decide +kernel)) ggL_law_X9_as
set_option maxRecDepth 20000 in
theorem ggL_law_X8_marked : GoodIn wsL_law wsX8_marked := goodIn_r _ [213, 16, 125, 158, 159, 160, 2, 161, 122, 126, 127, 128, 129, 130, 131, 132, 33, 133, 1024, 1025, 1026, 1027, 1028, 1029, 1030, 1031, 1057, 1058, 1059, 1060, 1061, 1062, 1063, 1064, 1065, 1066, 1067, 1068, 1069] (by decide +kernel) (by decide +kernel)
set_option maxRecDepth 20000 in
theorem gL_law_X8_marked : GoodIn wsL_law (wsV RL 31 RX8 yX8_marked wsX8_marked) := goodIn_app (goodIn_of _ (by decide +kernel)) ggL_law_X8_marked
set_option maxRecDepth 20000 in
theorem ggL_law_X9_marked : GoodIn wsL_law wsX9_marked := goodIn_r _ [217, 172, 173, 174, 5, 175, 102, 141, 142, 143, 218, 219, 220, 221, 144, 145, 146, 147, 105, 148, 1032, 1033, 1034, 1035, 1036, 1037, 1038, 1039, 1040, 1041, 1042, 1043, 1044, 1045, 1046, 1047, 1048, 1049, 1050, 1051, 1052, 1053, 1054, 1055, 1056] (by decide +kernel) (by decide +kernel)
set_option maxRecDepth 20000 in
theorem gL_law_X9_marked : GoodIn wsL_law (wsV RL 34 RX9 yX9_marked wsX9_marked) := goodIn_app (goodIn_of _ (by decide +kernel)) ggL_law_X9_marked
set_option maxRecDepth 20000 in
theorem ggL_law_X8_knows : GoodIn wsL_law wsX8_knows := goodIn_r _ [225, 16, 157, 226, 126, 127, 2, 128, 129, 130, 131, 132, 33, 133, 1024, 1025, 1026, 1027, 1028, 1029, 1030, 1031, 1057, 1058, 1059, 1060, 1061, 1062, 1063, 1064, 1065, 1066, 1067, 1068, 1069, 1092, 1093, 1094, 1095] (by decide +kernel) (by decide +kernel)
set_option maxRecDepth 20000 in
theorem gL_law_X8_knows : GoodIn wsL_law (wsV RL 35 RX8 yX8_knows wsX8_knows) := goodIn_app (goodIn_of _ (by decide +kernel)) ggL_law_X8_knows
set_option maxRecDepth 20000 in
theorem ggL_law_X9_knows : GoodIn wsL_law wsX9_knows := goodIn_r _ [230, 231, 232, 5, 233, 141, 142, 143, 218, 219, 220, 221, 102, 144, 145, 146, 147, 105, 148, 1032, 1033, 1034, 1035, 1036, 1037, 1038, 1039, 1040, 1041, 1042, 1043, 1044, 1045, 1046, 1047, 1048, 1049, 1050, 1051, 1052, 1053, 1054, 1055, 1056] (by decide +kernel) (by decide +kernel)
set_option maxRecDepth 20000 in
theorem gL_law_X9_knows : GoodIn wsL_law (wsV RL 38 RX9 yX9_knows wsX9_knows) := goodIn_app (goodIn_of _ (by decide +kernel)) ggL_law_X9_knows
set_option maxRecDepth 20000 in
theorem ggL_law_X8_jawed : GoodIn wsL_law wsX8_jawed := goodIn_r _ [237, 16, 157, 238, 239, 240, 2, 241, 126, 127, 128, 129, 130, 131, 132, 33, 133, 1024, 1025, 1026, 1027, 1028, 1029, 1030, 1031, 1057, 1058, 1059, 1060, 1061, 1062, 1063, 1064, 1065, 1066, 1067, 1068, 1069, 1092, 1093, 1094, 1095] (by decide +kernel) (by decide +kernel)
set_option maxRecDepth 20000 in
theorem gL_law_X8_jawed : GoodIn wsL_law (wsV RL 39 RX8 yX8_jawed wsX8_jawed) := goodIn_app (goodIn_of _ (by decide +kernel)) ggL_law_X8_jawed
set_option maxRecDepth 20000 in
theorem ggL_law_X9_jawed : GoodIn wsL_law wsX9_jawed := goodIn_r _ [245, 246, 247, 5, 248, 141, 142, 143, 218, 219, 220, 221, 102, 144, 145, 146, 147, 105, 148, 1032, 1033, 1034, 1035, 1036, 1037, 1038, 1039, 1040, 1041, 1042, 1043, 1044, 1045, 1046, 1047, 1048, 1049, 1050, 1051, 1052, 1053, 1054, 1055, 1056] (by decide +kernel) (by decide +kernel)
set_option maxRecDepth 20000 in
theorem gL_law_X9_jawed : GoodIn wsL_law (wsV RL 42 RX9 yX9_jawed wsX9_jawed) := goodIn_app (goodIn_of _ (by decide +kernel)) ggL_law_X9_jawed
set_option maxRecDepth 20000 in
theorem ggL_law_X8_happens : GoodIn wsL_law wsX8_happens := goodIn_r _ [252, 16, 253, 126, 127, 2, 128, 129, 130, 131, 132, 33, 133, 1024, 1025, 1026, 1027, 1028, 1029, 1030, 1031, 1057, 1058, 1059, 1060, 1061, 1062, 1063, 1064, 1065, 1066, 1067, 1068, 1069] (by decide +kernel) (by decide +kernel)
set_option maxRecDepth 20000 in
theorem gL_law_X8_happens : GoodIn wsL_law (wsV RL 43 RX8 yX8_happens wsX8_happens) := goodIn_app (goodIn_of _ (by decide +kernel)) ggL_law_X8_happens
set_option maxRecDepth 20000 in
theorem ggL_law_X9_happens : GoodIn wsL_law wsX9_happens := goodIn_r _ [257, 141, 142, 5, 143, 231, 232, 233, 218, 219, 220, 221, 102, 144, 145, 146, 147, 105, 148, 1032, 1033, 1034, 1035, 1036, 1037, 1038, 1039, 1040, 1041, 1042, 1043, 1044, 1045, 1046, 1047, 1048, 1049, 1050, 1051, 1052, 1053, 1054, 1055, 1056] (by decide +kernel) (by decide +kernel)
set_option maxRecDepth 20000 in
theorem gL_law_X9_happens : GoodIn wsL_law (wsV RL 46 RX9 yX9_happens wsX9_happens) := goodIn_app (goodIn_of _ (by decide +kernel)) ggL_law_X9_happens
set_option maxRecDepth 20000 in
theorem ggL_law_X8_sign : GoodIn wsL_law wsX8_sign := goodIn_r _ [261, 16, 157, 239, 240, 2, 241, 126, 127, 128, 129, 130, 131, 132, 33, 133, 262, 263, 264, 15, 265, 55, 266, 267, 268, 269, 42, 270, 271, 272, 273, 274, 275, 276, 277, 278, 279, 280, 54, 281, 75, 282, 283, 284, 285, 69, 70, 286, 287, 288, 289, 290, 66, 67, 68, 291, 292, 73, 293, 71, 72, 74, 294, 295, 296, 1024, 1025, 1026, 1027, 1028, 1029, 1030, 1031, 1057, 1058, 1059, 1060, 1061, 1062, 1063, 1064, 1065, 1066, 1067, 1068, 1069, 1092, 1093, 1094, 1095, 1096, 1097, 1098, 1099, 1100, 1101, 1102] (by decide +kernel) (by decide +kernel)
set_option maxRecDepth 20000 in
theorem gL_law_X8_sign : GoodIn wsL_law (wsV RL 47 RX8 yX8_sign wsX8_sign) := goodIn_app (goodIn_of _ (by decide +kernel)) ggL_law_X8_sign
set_option maxRecDepth 20000 in
theorem ggL_law_X9_sign : GoodIn wsL_law wsX9_sign := goodIn_r _ [300, 246, 247, 5, 248, 141, 142, 143, 231, 232, 233, 301, 302, 303, 304, 102, 305, 306, 307, 308, 309, 310, 311, 312, 313, 314, 315, 107, 316, 317, 318, 319, 320, 321, 322, 323, 108, 324, 325, 326, 327, 328, 329, 144, 145, 146, 147, 105, 148, 1032, 1033, 1034, 1035, 1036, 1037, 1038, 1039, 1040, 1041, 1042, 1043, 1044, 1045, 1046, 1047, 1048, 1049, 1050, 1051, 1052, 1053, 1054, 1055, 1056] (by decide +kernel) (by decide +kernel)
set_option maxRecDepth 20000 in
theorem gL_law_X9_sign : GoodIn wsL_law (wsV RL 50 RX9 yX9_sign wsX9_sign) := goodIn_app (goodIn_of _ (by decide +kernel)) ggL_law_X9_sign
set_option maxRecDepth 20000 in
theorem ggL_law_X8_feed : GoodIn wsL_law wsX8_feed := goodIn_r _ [333, 16, 334, 335, 129, 130, 131, 2, 132, 33, 133, 1024, 1025, 1026, 1027, 1028, 1029, 1030, 1031, 1057, 1058, 1059, 1060, 1061, 1062, 1063, 1064, 1065, 1066, 1067, 1068, 1069] (by decide +kernel) (by decide +kernel)
set_option maxRecDepth 20000 in
theorem gL_law_X8_feed : GoodIn wsL_law (wsV RL 53 RX8 yX8_feed wsX8_feed) := goodIn_app (goodIn_of _ (by decide +kernel)) ggL_law_X8_feed
set_option maxRecDepth 20000 in
theorem ggL_law_X9_feed : GoodIn wsL_law wsX9_feed := goodIn_r _ [339, 102, 340, 141, 142, 5, 143, 144, 145, 146, 147, 105, 148, 1032, 1033, 1034, 1035, 1036, 1037, 1038, 1039, 1040, 1041, 1042, 1043, 1044, 1045, 1046, 1047, 1048, 1049, 1050, 1051, 1052, 1053, 1054, 1055, 1056] (by decide +kernel) (by decide +kernel)
set_option maxRecDepth 20000 in
theorem gL_law_X9_feed : GoodIn wsL_law (wsV RL 57 RX9 yX9_feed wsX9_feed) := goodIn_app (goodIn_of _ (by decide +kernel)) ggL_law_X9_feed
set_option maxRecDepth 20000 in
theorem ggL_law_X8_text : GoodIn wsL_law wsX8_text := goodIn_r _ [344, 25, 16, 335, 334, 345, 346, 347, 348, 2, 349, 126, 127, 128, 129, 130, 131, 132, 33, 133, 350, 351, 352, 24, 353, 87, 354, 292, 73, 293, 355, 72, 74, 356, 357, 358, 359, 360, 88, 361, 362, 363, 364, 365, 366, 367, 368, 369, 370, 371, 372, 373, 374, 375, 376, 377, 378, 379, 380, 89, 381, 382, 383, 384, 385, 386, 387, 388, 389, 390, 391, 392, 393, 394, 395, 396, 397, 398, 399, 400, 401, 402, 403, 404, 405, 406, 407, 408, 409, 410, 411, 412, 413, 414, 415, 416, 417, 418, 419, 420, 421, 422, 423, 424, 425, 426, 427, 428, 429, 430, 431, 432, 433, 434, 435, 436, 437, 438, 439, 440, 441, 442, 443, 444, 445, 446, 447, 448, 449, 450, 451, 452, 453, 454, 455, 456, 457, 458, 459, 460, 461, 462, 463, 464, 465, 466, 467, 468, 469, 470, 471, 472, 473, 474, 475, 476, 477, 478, 479, 480, 481, 482, 483, 15, 484, 55, 56, 485, 486, 487, 54, 488, 66, 291, 71, 290, 489, 75, 490, 491, 492, 493, 1024, 1025, 1026, 1027, 1028, 1029, 1030, 1031, 1057, 1058, 1059, 1060, 1061, 1062, 1063, 1064, 1065, 1066, 1067, 1068, 1069, 1077, 1078, 1079, 1080, 1081, 1082, 1096, 1097, 1098, 1099, 1100, 1101, 1102] (by decide +kernel) (by decide +kernel)
set_option maxRecDepth 20000 in
theorem gL_law_X8_text : GoodIn wsL_law (wsV RL 58 RX8 yX8_text wsX8_text) := goodIn_app (goodIn_of _ (by decide +kernel)) ggL_law_X8_text
set_option maxRecDepth 20000 in
theorem ggL_law_X9_text : GoodIn wsL_law wsX9_text := goodIn_r _ [497, 498, 499, 500, 501, 102, 106, 141, 142, 5, 143, 144, 145, 146, 147, 105, 148, 502, 503, 504, 505, 506, 507, 508, 509, 510, 511, 512, 513, 514, 515, 516, 517, 518, 519, 520, 521, 522, 523, 524, 525, 526, 527, 528, 529, 530, 531, 532, 533, 534, 535, 536, 537, 538, 539, 540, 541, 1032, 1033, 1034, 1035, 1036, 1037, 1038, 1039, 1040, 1041, 1042, 1043, 1044, 1045, 1046, 1047, 1048, 1049, 1050, 1051, 1052, 1053, 1054, 1055, 1056] (by decide +kernel) (by decide +kernel)
set_option maxRecDepth 20000 in
theorem gL_law_X9_text : GoodIn wsL_law (wsV RL 61 RX9 yX9_text wsX9_text) := goodIn_app (goodIn_of _ (by decide +kernel)) ggL_law_X9_text
set_option maxRecDepth 20000 in
theorem ggL_law_X8_untell : GoodIn wsL_law wsX8_untell := goodIn_r _ [545, 16, 546, 347, 348, 2, 349, 126, 127, 128, 129, 130, 131, 132, 33, 133, 481, 482, 483, 15, 484, 55, 56, 547, 548, 549, 54, 550, 290, 75, 490, 491, 492, 493, 1024, 1025, 1026, 1027, 1028, 1029, 1030, 1031, 1096, 1097, 1098, 1099, 1100, 1101, 1102, 1057, 1058, 1059, 1060, 1061, 1062, 1063, 1064, 1065, 1066, 1067, 1068, 1069] (by decide +kernel) (by decide +kernel)
set_option maxRecDepth 20000 in
theorem gL_law_X8_untell : GoodIn wsL_law (wsV RL 62 RX8 yX8_untell wsX8_untell) := goodIn_app (goodIn_of _ (by decide +kernel)) ggL_law_X8_untell
set_option maxRecDepth 20000 in
theorem ggL_law_X9_untell : GoodIn wsL_law wsX9_untell := goodIn_r _ [554, 102, 141, 142, 5, 143, 144, 145, 146, 147, 105, 148, 316, 317, 318, 319, 1032, 1033, 1034, 1035, 1036, 1037, 1038, 1039, 1040, 1041, 1042, 1043, 1044, 1045, 1046, 1047, 1048, 1049, 1050, 1051, 1052, 1053, 1054, 1055, 1056] (by decide +kernel) (by decide +kernel)
set_option maxRecDepth 20000 in
theorem gL_law_X9_untell : GoodIn wsL_law (wsV RL 65 RX9 yX9_untell wsX9_untell) := goodIn_app (goodIn_of _ (by decide +kernel)) ggL_law_X9_untell
set_option maxRecDepth 20000 in
theorem ggL_law_X8_law : GoodIn wsL_law wsX8_law := goodIn_r _ [558, 16, 347, 348, 2, 349, 126, 127, 128, 481, 482, 483, 15, 484, 55, 56, 559, 279, 280, 54, 281, 75, 282, 283, 284, 285, 69, 70, 286, 287, 288, 289, 290, 66, 67, 68, 291, 292, 73, 293, 71, 72, 74, 294, 295, 296, 129, 130, 131, 132, 33, 133, 1024, 1025, 1026, 1027, 1028, 1029, 1030, 1031, 1057, 1058, 1059, 1060, 1061, 1062, 1063, 1064, 1065, 1066, 1067, 1068, 1069, 1096, 1097, 1098, 1099, 1100, 1101, 1102] (by decide +kernel) (by decide +kernel)
set_option maxRecDepth 20000 in
theorem gL_law_X8_law : GoodIn wsL_law (wsV RL 66 RX8 yX8_law wsX8_law) := goodIn_app (goodIn_of _ (by decide +kernel)) ggL_law_X8_law
set_option maxRecDepth 20000 in
theorem ggL_law_X9_law : GoodIn wsL_law wsX9_law := goodIn_r _ [563, 107, 141, 142, 5, 143, 144, 145, 146, 147, 105, 148, 316, 317, 318, 319, 102, 320, 321, 322, 323, 108, 324, 325, 326, 327, 328, 329, 1032, 1033, 1034, 1035, 1036, 1037, 1038, 1039, 1040, 1041, 1042, 1043, 1044, 1045, 1046, 1047, 1048, 1049, 1050, 1051, 1052, 1053, 1054, 1055, 1056] (by decide +kernel) (by decide +kernel)
set_option maxRecDepth 20000 in
theorem gL_law_X9_law : GoodIn wsL_law (wsV RL 70 RX9 yX9_law wsX9_law) := goodIn_app (goodIn_of _ (by decide +kernel)) ggL_law_X9_law
set_option maxRecDepth 20000 in
theorem ggL_law_X8_years : GoodIn wsL_law wsX8_years := goodIn_r _ [567, 16, 157, 568, 129, 130, 131, 2, 132, 33, 133, 569, 570, 571, 15, 572, 44, 573, 574, 575, 576, 577, 578, 579, 580, 43, 581, 47, 267, 582, 583, 584, 585, 586, 587, 588, 263, 264, 265, 55, 266, 268, 269, 42, 270, 271, 272, 273, 274, 275, 276, 277, 278, 279, 280, 54, 281, 75, 282, 283, 284, 285, 69, 70, 286, 287, 288, 289, 290, 66, 67, 68, 291, 292, 73, 293, 71, 72, 74, 294, 295, 296, 589, 590, 591, 592, 45, 46, 56, 593, 594, 163, 164, 165, 166, 167, 595, 596, 597, 598, 599, 600, 601, 1024, 1025, 1026, 1027, 1028, 1029, 1030, 1031, 1057, 1058, 1059, 1060, 1061, 1062, 1063, 1064, 1065, 1066, 1067, 1068, 1069, 1092, 1093, 1094, 1095, 1096, 1097, 1098, 1099, 1100, 1101, 1102] (by decide +kernel) (by decide +kernel)
set_option maxRecDepth 20000 in
theorem gL_law_X8_years : GoodIn wsL_law (wsV RL 71 RX8 yX8_years wsX8_years) := goodIn_app (goodIn_of _ (by decide +kernel)) ggL_law_X8_years
set_option maxRecDepth 20000 in
theorem ggL_law_X9_years : GoodIn wsL_law wsX9_years := goodIn_r _ [605, 102, 141, 142, 5, 143, 144, 145, 146, 147, 105, 148, 606, 607, 608, 609, 610, 611, 612, 613, 301, 302, 303, 304, 305, 306, 307, 308, 309, 310, 311, 312, 313, 314, 315, 107, 316, 317, 318, 319, 320, 321, 322, 323, 108, 324, 325, 326, 327, 328, 329, 176, 177, 178, 179, 180, 181, 182, 183, 614, 615, 616, 617, 618, 619, 620, 621, 149, 150, 151, 152, 622, 623, 624, 625, 1032, 1033, 1034, 1035, 1036, 1037, 1038, 1039, 1040, 1041, 1042, 1043, 1044, 1045, 1046, 1047, 1048, 1049, 1050, 1051, 1052, 1053, 1054, 1055, 1056] (by decide +kernel) (by decide +kernel)
set_option maxRecDepth 20000 in
theorem gL_law_X9_years : GoodIn wsL_law (wsV RL 74 RX9 yX9_years wsX9_years) := goodIn_app (goodIn_of _ (by decide +kernel)) ggL_law_X9_years
set_option maxRecDepth 20000 in
theorem ggL_law_X8_loose : GoodIn wsL_law wsX8_loose := goodIn_r _ [629, 16, 157, 568, 129, 130, 131, 2, 132, 33, 133, 630, 631, 632, 15, 633, 51, 634, 577, 578, 579, 580, 43, 581, 47, 267, 582, 583, 584, 585, 586, 587, 588, 263, 264, 265, 55, 266, 268, 269, 42, 270, 271, 272, 273, 274, 275, 276, 277, 278, 279, 280, 54, 281, 75, 282, 283, 284, 285, 69, 70, 286, 287, 288, 289, 290, 66, 67, 68, 291, 292, 73, 293, 71, 72, 74, 294, 295, 296, 589, 590, 591, 592, 45, 46, 56, 593, 594, 163, 164, 165, 166, 167, 595, 596, 597, 598, 599, 600, 601, 1024, 1025, 1026, 1027, 1028, 1029, 1030, 1031, 1057, 1058, 1059, 1060, 1061, 1062, 1063, 1064, 1065, 1066, 1067, 1068, 1069, 1092, 1093, 1094, 1095, 1096, 1097, 1098, 1099, 1100, 1101, 1102] (by decide +kernel) (by decide +kernel)
set_option maxRecDepth 20000 in
theorem gL_law_X8_loose : GoodIn wsL_law (wsV RL 75 RX8 yX8_loose wsX8_loose) := goodIn_app (goodIn_of _ (by decide +kernel)) ggL_law_X8_loose
set_option maxRecDepth 20000 in
theorem ggL_law_X9_loose : GoodIn wsL_law wsX9_loose := goodIn_r _ [638, 102, 639, 141, 142, 5, 143, 144, 145, 146, 147, 105, 148, 610, 611, 612, 613, 301, 302, 303, 304, 305, 306, 307, 308, 309, 310, 311, 312, 313, 314, 315, 107, 316, 317, 318, 319, 320, 321, 322, 323, 108, 324, 325, 326, 327, 328, 329, 176, 177, 178, 179, 180, 181, 182, 183, 614, 615, 616, 617, 618, 619, 620, 621, 149, 150, 151, 152, 622, 623, 624, 625, 1032, 1033, 1034, 1035, 1036, 1037, 1038, 1039, 1040, 1041, 1042, 1043, 1044, 1045, 1046, 1047, 1048, 1049, 1050, 1051, 1052, 1053, 1054, 1055, 1056] (by decide +kernel) (by decide +kernel)
set_option maxRecDepth 20000 in
theorem gL_law_X9_loose : GoodIn wsL_law (wsV RL 78 RX9 yX9_loose wsX9_loose) := goodIn_app (goodIn_of _ (by decide +kernel)) ggL_law_X9_loose
set_option maxRecDepth 20000 in
theorem ggL_law_X8_year : GoodIn wsL_law wsX8_year := goodIn_r _ [643, 16, 157, 568, 126, 127, 2, 128, 129, 130, 131, 132, 33, 133, 1024, 1025, 1026, 1027, 1028, 1029, 1030, 1031, 1057, 1058, 1059, 1060, 1061, 1062, 1063, 1064, 1065, 1066, 1067, 1068, 1069, 1092, 1093, 1094, 1095] (by decide +kernel) (by decide +kernel)
set_option maxRecDepth 20000 in
theorem gL_law_X8_year : GoodIn wsL_law (wsV RL 79 RX8 yX8_year wsX8_year) := goodIn_app (goodIn_of _ (by decide +kernel)) ggL_law_X8_year
set_option maxRecDepth 20000 in
theorem ggL_law_X9_year : GoodIn wsL_law wsX9_year := goodIn_r _ [647, 141, 142, 5, 143, 218, 219, 220, 221, 102, 144, 145, 146, 147, 105, 148, 1032, 1033, 1034, 1035, 1036, 1037, 1038, 1039, 1040, 1041, 1042, 1043, 1044, 1045, 1046, 1047, 1048, 1049, 1050, 1051, 1052, 1053, 1054, 1055, 1056] (by decide +kernel) (by decide +kernel)
set_option maxRecDepth 20000 in
theorem gL_law_X9_year : GoodIn wsL_law (wsV RL 82 RX9 yX9_year wsX9_year) := goodIn_app (goodIn_of _ (by decide +kernel)) ggL_law_X9_year
set_option maxRecDepth 20000 in
theorem ggL_law_X8_seed : GoodIn wsL_law wsX8_seed := goodIn_r _ [651, 16, 652, 1024, 1025, 1026, 1027, 1028, 1029, 1030, 1031, 1057, 1058, 1059, 1060, 1061, 1062, 1063, 1064, 1065, 1066, 1067, 1068, 1069] (by decide +kernel) (by decide +kernel)
set_option maxRecDepth 20000 in
theorem gL_law_X8_seed : GoodIn wsL_law (wsV RL 83 RX8 yX8_seed wsX8_seed) := goodIn_app (goodIn_of _ (by decide +kernel)) ggL_law_X8_seed
set_option maxRecDepth 20000 in
theorem ggL_law_X9_seed : GoodIn wsL_law wsX9_seed := goodIn_r _ [656, 218, 219, 220, 5, 221, 102, 1032, 1033, 1034, 1035, 1036, 1037, 1038, 1039, 1040, 1041, 1042, 1043, 1044, 1045, 1046, 1047, 1048, 1049, 1050, 1051, 1052, 1053, 1054, 1055, 1056] (by decide +kernel) (by decide +kernel)
set_option maxRecDepth 20000 in
theorem gL_law_X9_seed : GoodIn wsL_law (wsV RL 86 RX9 yX9_seed wsX9_seed) := goodIn_app (goodIn_of _ (by decide +kernel)) ggL_law_X9_seed
set_option maxRecDepth 20000 in
theorem ggL_law_X8_then : GoodIn wsL_law wsX8_then := goodIn_r _ [660, 21, 16, 239, 240, 2, 241, 126, 127, 128, 129, 130, 131, 132, 33, 133, 661, 662, 663, 20, 664, 80, 665, 666, 667, 668, 669, 42, 670, 671, 672, 60, 673, 358, 359, 360, 674, 675, 676, 677, 678, 679, 570, 571, 15, 572, 44, 573, 574, 575, 576, 680, 583, 584, 585, 586, 587, 588, 263, 264, 265, 55, 266, 267, 268, 269, 270, 271, 272, 273, 274, 275, 276, 277, 278, 279, 280, 54, 281, 75, 282, 283, 284, 285, 69, 70, 286, 287, 288, 289, 290, 66, 67, 68, 291, 292, 73, 293, 71, 72, 74, 294, 295, 296, 1024, 1025, 1026, 1027, 1028, 1029, 1030, 1031, 1070, 1071, 1072, 1073, 1074, 1075, 1076, 1057, 1058, 1059, 1060, 1061, 1062, 1063, 1064, 1065, 1066, 1067, 1068, 1069, 1092, 1093, 1094, 1095, 1096, 1097, 1098, 1099, 1100, 1101, 1102] (by decide +kernel) (by decide +kernel)
set_option maxRecDepth 20000 in
theorem gL_law_X8_then : GoodIn wsL_law (wsV RL 87 RX8 yX8_then wsX8_then) := goodIn_app (goodIn_of _ (by decide +kernel)) ggL_law_X8_then
set_option maxRecDepth 20000 in
theorem ggL_law_X9_then : GoodIn wsL_law wsX9_then := goodIn_r _ [684, 102, 246, 247, 5, 248, 141, 142, 143, 144, 145, 146, 147, 105, 148, 685, 686, 687, 688, 104, 606, 607, 608, 609, 610, 611, 612, 613, 301, 302, 303, 304, 305, 306, 307, 308, 309, 310, 311, 312, 313, 314, 315, 107, 316, 317, 318, 319, 320, 321, 322, 323, 108, 324, 325, 326, 327, 328, 329, 176, 177, 178, 179, 180, 181, 182, 183, 614, 615, 616, 617, 618, 619, 620, 621, 149, 150, 151, 152, 689, 690, 691, 692, 1032, 1033, 1034, 1035, 1036, 1037, 1038, 1039, 1040, 1041, 1042, 1043, 1044, 1045, 1046, 1047, 1048, 1049, 1050, 1051, 1052, 1053, 1054, 1055, 1056] (by decide +kernel) (by decide +kernel)
set_option maxRecDepth 20000 in
theorem gL_law_X9_then : GoodIn wsL_law (wsV RL 90 RX9 yX9_then wsX9_then) := goodIn_app (goodIn_of _ (by decide +kernel)) ggL_law_X9_then
set_option maxRecDepth 20000 in
theorem ggL_law_X8_marksThen : GoodIn wsL_law wsX8_marksThen := goodIn_r _ [696, 21, 16, 157, 226, 158, 159, 160, 2, 161, 122, 126, 127, 128, 129, 130, 131, 132, 33, 133, 697, 698, 699, 20, 700, 80, 665, 701, 702, 678, 667, 668, 669, 42, 670, 671, 672, 60, 673, 358, 359, 360, 679, 570, 571, 15, 572, 44, 573, 574, 575, 576, 680, 583, 584, 585, 586, 587, 588, 263, 264, 265, 55, 266, 267, 268, 269, 270, 271, 272, 273, 274, 275, 276, 277, 278, 279, 280, 54, 281, 75, 282, 283, 284, 285, 69, 70, 286, 287, 288, 289, 290, 66, 67, 68, 291, 292, 73, 293, 71, 72, 74, 294, 295, 296, 703, 590, 591, 592, 45, 46, 581, 56, 593, 594, 163, 164, 165, 166, 167, 595, 596, 597, 1024, 1025, 1026, 1027, 1028, 1029, 1030, 1031, 1057, 1058, 1059, 1060, 1061, 1062, 1063, 1064, 1065, 1066, 1067, 1068, 1069, 1092, 1093, 1094, 1095, 1070, 1071, 1072, 1073, 1074, 1075, 1076, 1096, 1097, 1098, 1099, 1100, 1101, 1102] (by decide +kernel) (by decide +kernel)
set_option maxRecDepth 20000 in
theorem gL_law_X8_marksThen : GoodIn wsL_law (wsV RL 91 RX8 yX8_marksThen wsX8_marksThen) := goodIn_app (goodIn_of _ (by decide +kernel)) ggL_law_X8_marksThen
set_option maxRecDepth 20000 in
theorem ggL_law_X9_marksThen : GoodIn wsL_law wsX9_marksThen := goodIn_r _ [707, 172, 173, 174, 5, 175, 102, 141, 142, 143, 144, 145, 146, 147, 105, 148, 685, 686, 687, 688, 104, 606, 607, 608, 609, 610, 611, 612, 613, 301, 302, 303, 304, 305, 306, 307, 308, 309, 310, 311, 312, 313, 314, 315, 107, 316, 317, 318, 319, 320, 321, 322, 323, 108, 324, 325, 326, 327, 328, 329, 176, 177, 178, 179, 180, 181, 182, 183, 614, 615, 616, 617, 618, 619, 620, 621, 149, 150, 151, 152, 689, 690, 691, 692, 1032, 1033, 1034, 1035, 1036, 1037, 1038, 1039, 1040, 1041, 1042, 1043, 1044, 1045, 1046, 1047, 1048, 1049, 1050, 1051, 1052, 1053, 1054, 1055, 1056] (by decide +kernel) (by decide +kernel)
set_option maxRecDepth 20000 in
theorem gL_law_X9_marksThen : GoodIn wsL_law (wsV RL 94 RX9 yX9_marksThen wsX9_marksThen) := goodIn_app (goodIn_of _ (by decide +kernel)) ggL_law_X9_marksThen
set_option maxRecDepth 20000 in
theorem ggL_law_X8_laughs : GoodIn wsL_law wsX8_laughs := goodIn_r _ [711, 21, 16, 239, 240, 2, 241, 126, 127, 128, 129, 130, 131, 132, 33, 133, 712, 713, 714, 20, 715, 80, 665, 666, 667, 668, 669, 42, 670, 671, 672, 60, 673, 358, 359, 360, 674, 675, 676, 677, 678, 679, 570, 571, 15, 572, 44, 573, 574, 575, 576, 680, 583, 584, 585, 586, 587, 588, 263, 264, 265, 55, 266, 267, 268, 269, 270, 271, 272, 273, 274, 275, 276, 277, 278, 279, 280, 54, 281, 75, 282, 283, 284, 285, 69, 70, 286, 287, 288, 289, 290, 66, 67, 68, 291, 292, 73, 293, 71, 72, 74, 294, 295, 296, 1024, 1025, 1026, 1027, 1028, 1029, 1030, 1031, 1070, 1071, 1072, 1073, 1074, 1075, 1076, 1057, 1058, 1059, 1060, 1061, 1062, 1063, 1064, 1065, 1066, 1067, 1068, 1069, 1092, 1093, 1094, 1095, 1096, 1097, 1098, 1099, 1100, 1101, 1102] (by decide +kernel) (by decide +kernel)
set_option maxRecDepth 20000 in
theorem gL_law_X8_laughs : GoodIn wsL_law (wsV RL 95 RX8 yX8_laughs wsX8_laughs) := goodIn_app (goodIn_of _ (by decide +kernel)) ggL_law_X8_laughs
set_option maxRecDepth 20000 in
theorem ggL_law_X9_laughs : GoodIn wsL_law wsX9_laughs := goodIn_r _ [719, 102, 246, 247, 5, 248, 141, 142, 143, 144, 145, 146, 147, 105, 148, 685, 686, 687, 688, 104, 606, 607, 608, 609, 610, 611, 612, 613, 301, 302, 303, 304, 305, 306, 307, 308, 309, 310, 311, 312, 313, 314, 315, 107, 316, 317, 318, 319, 320, 321, 322, 323, 108, 324, 325, 326, 327, 328, 329, 176, 177, 178, 179, 180, 181, 182, 183, 614, 615, 616, 617, 618, 619, 620, 621, 149, 150, 151, 152, 689, 690, 691, 692, 1032, 1033, 1034, 1035, 1036, 1037, 1038, 1039, 1040, 1041, 1042, 1043, 1044, 1045, 1046, 1047, 1048, 1049, 1050, 1051, 1052, 1053, 1054, 1055, 1056] (by decide +kernel) (by decide +kernel)
set_option maxRecDepth 20000 in
theorem gL_law_X9_laughs : GoodIn wsL_law (wsV RL 98 RX9 yX9_laughs wsX9_laughs) := goodIn_app (goodIn_of _ (by decide +kernel)) ggL_law_X9_laughs
set_option maxRecDepth 20000 in
theorem ggL_law_X8_alike : GoodIn wsL_law wsX8_alike := goodIn_r _ [723, 21, 16, 724, 725, 726, 20, 727, 80, 665, 666, 667, 668, 669, 42, 670, 671, 672, 60, 673, 358, 359, 360, 674, 675, 676, 677, 678, 679, 570, 571, 15, 572, 44, 573, 574, 575, 576, 680, 583, 584, 585, 586, 587, 588, 263, 264, 265, 55, 266, 267, 268, 269, 270, 271, 272, 273, 274, 275, 276, 277, 278, 279, 280, 54, 281, 75, 282, 283, 284, 285, 69, 70, 286, 287, 288, 289, 290, 66, 67, 68, 291, 292, 73, 293, 71, 72, 74, 294, 295, 296, 129, 130, 131, 2, 132, 33, 133, 1024, 1025, 1026, 1027, 1028, 1029, 1030, 1031, 1070, 1071, 1072, 1073, 1074, 1075, 1076, 1057, 1058, 1059, 1060, 1061, 1062, 1063, 1064, 1065, 1066, 1067, 1068, 1069, 1092, 1093, 1094, 1095, 1096, 1097, 1098, 1099, 1100, 1101, 1102] (by decide +kernel) (by decide +kernel)
set_option maxRecDepth 20000 in
theorem gL_law_X8_alike : GoodIn wsL_law (wsV RL 99 RX8 yX8_alike wsX8_alike) := goodIn_app (goodIn_of _ (by decide +kernel)) ggL_law_X8_alike
set_option maxRecDepth 20000 in
theorem ggL_law_X9_alike : GoodIn wsL_law wsX9_alike := goodIn_r _ [731, 102, 685, 686, 687, 5, 688, 104, 606, 607, 608, 609, 610, 611, 612, 613, 301, 302, 303, 304, 305, 306, 307, 308, 309, 310, 311, 312, 313, 314, 315, 107, 316, 317, 318, 319, 320, 321, 322, 323, 108, 324, 325, 326, 327, 328, 329, 176, 177, 178, 179, 180, 181, 182, 183, 614, 615, 616, 617, 618, 619, 620, 621, 149, 150, 151, 152, 689, 690, 691, 692, 144, 145, 146, 147, 105, 148, 1032, 1033, 1034, 1035, 1036, 1037, 1038, 1039, 1040, 1041, 1042, 1043, 1044, 1045, 1046, 1047, 1048, 1049, 1050, 1051, 1052, 1053, 1054, 1055, 1056] (by decide +kernel) (by decide +kernel)
set_option maxRecDepth 20000 in
theorem gL_law_X9_alike : GoodIn wsL_law (wsV RL 103 RX9 yX9_alike wsX9_alike) := goodIn_app (goodIn_of _ (by decide +kernel)) ggL_law_X9_alike
set_option maxRecDepth 20000 in
theorem ggL_law_X8_fits : GoodIn wsL_law wsX8_fits := goodIn_r _ [735, 31, 21, 16, 736, 737, 738, 739, 2, 740, 126, 127, 128, 239, 240, 241, 129, 130, 131, 132, 33, 133, 741, 742, 743, 35, 744, 745, 746, 747, 748, 20, 749, 750, 80, 665, 701, 81, 667, 668, 669, 42, 670, 671, 672, 60, 673, 358, 359, 360, 751, 752, 753, 754, 755, 678, 666, 756, 679, 570, 571, 15, 572, 44, 573, 574, 575, 576, 680, 583, 584, 585, 586, 587, 588, 263, 264, 265, 55, 266, 267, 268, 269, 270, 271, 272, 273, 274, 275, 276, 277, 278, 279, 280, 54, 281, 75, 282, 283, 284, 285, 69, 70, 286, 287, 288, 289, 290, 66, 67, 68, 291, 292, 73, 293, 71, 72, 74, 294, 295, 296, 1024, 1025, 1026, 1027, 1028, 1029, 1030, 1031, 1070, 1071, 1072, 1073, 1074, 1075, 1076, 1089, 1090, 1091, 1057, 1058, 1059, 1060, 1061, 1062, 1063, 1064, 1065, 1066, 1067, 1068, 1069, 1092, 1093, 1094, 1095, 1096, 1097, 1098, 1099, 1100, 1101, 1102] (by decide +kernel) (by decide +kernel)
set_option maxRecDepth 20000 in
theorem gL_law_X8_fits : GoodIn wsL_law (wsV RL 104 RX8 yX8_fits wsX8_fits) := goodIn_app (goodIn_of _ (by decide +kernel)) ggL_law_X8_fits
set_option maxRecDepth 20000 in
theorem ggL_law_X9_fits : GoodIn wsL_law wsX9_fits := goodIn_r _ [760, 114, 761, 762, 763, 764, 5, 765, 141, 142, 143, 246, 247, 248, 144, 145, 146, 147, 105, 148, 766, 767, 768, 769, 110, 770, 771, 772, 773, 102, 115, 116, 305, 306, 307, 308, 309, 310, 311, 312, 313, 314, 315, 107, 316, 317, 318, 319, 320, 321, 322, 323, 108, 324, 325, 326, 327, 328, 329, 1032, 1033, 1034, 1035, 1036, 1037, 1038, 1039, 1040, 1041, 1042, 1043, 1044, 1045, 1046, 1047, 1048, 1049, 1050, 1051, 1052, 1053, 1054, 1055, 1056] (by decide +kernel) (by decide +kernel)
set_option maxRecDepth 20000 in
theorem gL_law_X9_fits : GoodIn wsL_law (wsV RL 108 RX9 yX9_fits wsX9_fits) := goodIn_app (goodIn_of _ (by decide +kernel)) ggL_law_X9_fits
set_option maxRecDepth 20000 in
theorem ggL_law_X8_question : GoodIn wsL_law wsX8_question := goodIn_r _ [777, 31, 21, 16, 736, 778, 779, 738, 739, 2, 740, 126, 127, 128, 239, 240, 241, 129, 130, 131, 132, 33, 133, 741, 742, 743, 35, 744, 745, 746, 747, 748, 20, 749, 750, 80, 665, 701, 81, 667, 668, 669, 42, 670, 671, 672, 60, 673, 358, 359, 360, 751, 752, 753, 754, 755, 678, 666, 756, 679, 570, 571, 15, 572, 44, 573, 574, 575, 576, 680, 583, 584, 585, 586, 587, 588, 263, 264, 265, 55, 266, 267, 268, 269, 270, 271, 272, 273, 274, 275, 276, 277, 278, 279, 280, 54, 281, 75, 282, 283, 284, 285, 69, 70, 286, 287, 288, 289, 290, 66, 67, 68, 291, 292, 73, 293, 71, 72, 74, 294, 295, 296, 780, 781, 782, 783, 784, 82, 785, 786, 787, 788, 789, 790, 791, 83, 792, 793, 491, 492, 493, 794, 1024, 1025, 1026, 1027, 1028, 1029, 1030, 1031, 1070, 1071, 1072, 1073, 1074, 1075, 1076, 1089, 1090, 1091, 1057, 1058, 1059, 1060, 1061, 1062, 1063, 1064, 1065, 1066, 1067, 1068, 1069, 1092, 1093, 1094, 1095, 1096, 1097, 1098, 1099, 1100, 1101, 1102] (by decide +kernel) (by decide +kernel)
set_option maxRecDepth 20000 in
theorem gL_law_X8_question : GoodIn wsL_law (wsV RL 109 RX8 yX8_question wsX8_question) := goodIn_app (goodIn_of _ (by decide +kernel)) ggL_law_X8_question
set_option maxRecDepth 20000 in
theorem ggL_law_X9_question : GoodIn wsL_law wsX9_question := goodIn_r _ [798, 114, 761, 763, 764, 5, 765, 141, 142, 143, 246, 247, 248, 144, 145, 146, 147, 105, 148, 766, 767, 768, 769, 762, 110, 770, 771, 772, 773, 102, 115, 116, 305, 306, 307, 308, 309, 310, 311, 312, 313, 314, 315, 107, 316, 317, 318, 319, 320, 321, 322, 323, 108, 324, 325, 326, 327, 328, 329, 799, 800, 801, 802, 111, 112, 1032, 1033, 1034, 1035, 1036, 1037, 1038, 1039, 1040, 1041, 1042, 1043, 1044, 1045, 1046, 1047, 1048, 1049, 1050, 1051, 1052, 1053, 1054, 1055, 1056] (by decide +kernel) (by decide +kernel)
set_option maxRecDepth 20000 in
theorem gL_law_X9_question : GoodIn wsL_law (wsV RL 112 RX9 yX9_question wsX9_question) := goodIn_app (goodIn_of _ (by decide +kernel)) ggL_law_X9_question
set_option maxRecDepth 20000 in
theorem ggL_law_X8_odds : GoodIn wsL_law wsX8_odds := goodIn_r _ [806, 21, 16, 158, 159, 160, 2, 161, 122, 126, 127, 128, 129, 130, 131, 132, 33, 133, 807, 808, 809, 20, 810, 811, 698, 699, 700, 80, 665, 701, 702, 678, 667, 668, 669, 42, 670, 671, 672, 60, 673, 358, 359, 360, 679, 570, 571, 15, 572, 44, 573, 574, 575, 576, 680, 583, 584, 585, 586, 587, 588, 263, 264, 265, 55, 266, 267, 268, 269, 270, 271, 272, 273, 274, 275, 276, 277, 278, 279, 280, 54, 281, 75, 282, 283, 284, 285, 69, 70, 286, 287, 288, 289, 290, 66, 67, 68, 291, 292, 73, 293, 71, 72, 74, 294, 295, 296, 703, 590, 591, 592, 45, 46, 581, 56, 593, 594, 163, 164, 165, 166, 167, 595, 596, 597, 1024, 1025, 1026, 1027, 1028, 1029, 1030, 1031, 1057, 1058, 1059, 1060, 1061, 1062, 1063, 1064, 1065, 1066, 1067, 1068, 1069, 1070, 1071, 1072, 1073, 1074, 1075, 1076, 1092, 1093, 1094, 1095, 1096, 1097, 1098, 1099, 1100, 1101, 1102] (by decide +kernel) (by decide +kernel)
set_option maxRecDepth 20000 in
theorem gL_law_X8_odds : GoodIn wsL_law (wsV RL 113 RX8 yX8_odds wsX8_odds) := goodIn_app (goodIn_of _ (by decide +kernel)) ggL_law_X8_odds
set_option maxRecDepth 20000 in
theorem ggL_law_X9_odds : GoodIn wsL_law wsX9_odds := goodIn_r _ [815, 102, 172, 173, 174, 5, 175, 141, 142, 143, 144, 145, 146, 147, 105, 148, 685, 686, 687, 688, 104, 606, 607, 608, 609, 610, 611, 612, 613, 301, 302, 303, 304, 305, 306, 307, 308, 309, 310, 311, 312, 313, 314, 315, 107, 316, 317, 318, 319, 320, 321, 322, 323, 108, 324, 325, 326, 327, 328, 329, 176, 177, 178, 179, 180, 181, 182, 183, 614, 615, 616, 617, 618, 619, 620, 621, 149, 150, 151, 152, 689, 690, 691, 692, 816, 817, 818, 1032, 1033, 1034, 1035, 1036, 1037, 1038, 1039, 1040, 1041, 1042, 1043, 1044, 1045, 1046, 1047, 1048, 1049, 1050, 1051, 1052, 1053, 1054, 1055, 1056] (by decide +kernel) (by decide +kernel)
set_option maxRecDepth 20000 in
theorem gL_law_X9_odds : GoodIn wsL_law (wsV RL 116 RX9 yX9_odds wsX9_odds) := goodIn_app (goodIn_of _ (by decide +kernel)) ggL_law_X9_odds
set_option maxRecDepth 20000 in
theorem ggL_law_X8_voice : GoodIn wsL_law wsX8_voice := goodIn_r _ [822, 29, 16, 123, 124, 823, 158, 159, 160, 2, 161, 122, 126, 127, 128, 129, 130, 131, 132, 33, 133, 824, 825, 826, 28, 827, 828, 829, 830, 831, 832, 833, 834, 835, 836, 837, 838, 839, 840, 841, 200, 164, 201, 202, 842, 843, 93, 844, 845, 846, 847, 848, 849, 850, 1024, 1025, 1026, 1027, 1028, 1029, 1030, 1031, 1057, 1058, 1059, 1060, 1061, 1062, 1063, 1064, 1065, 1066, 1067, 1068, 1069, 1083, 1084, 1085, 1086, 1087, 1088] (by decide +kernel) (by decide +kernel)
set_option maxRecDepth 20000 in
theorem gL_law_X8_voice : GoodIn wsL_law (wsV RL 117 RX8 yX8_voice wsX8_voice) := goodIn_app (goodIn_of _ (by decide +kernel)) ggL_law_X8_voice
set_option maxRecDepth 20000 in
theorem ggL_law_X9_voice : GoodIn wsL_law wsX9_voice := goodIn_r _ [854, 855, 856, 857, 172, 173, 174, 5, 175, 102, 141, 142, 143, 144, 145, 146, 147, 105, 148, 858, 859, 860, 861, 180, 181, 182, 183, 862, 863, 864, 865, 866, 867, 868, 869, 113, 207, 208, 209, 870, 871, 872, 873, 874, 875, 876, 877, 878, 879, 880, 881, 882, 883, 884, 885, 1032, 1033, 1034, 1035, 1036, 1037, 1038, 1039, 1040, 1041, 1042, 1043, 1044, 1045, 1046, 1047, 1048, 1049, 1050, 1051, 1052, 1053, 1054, 1055, 1056] (by decide +kernel) (by decide +kernel)
set_option maxRecDepth 20000 in
theorem gL_law_X9_voice : GoodIn wsL_law (wsV RL 120 RX9 yX9_voice wsX9_voice) := goodIn_app (goodIn_of _ (by decide +kernel)) ggL_law_X9_voice
set_option maxRecDepth 20000 in
theorem ggL_law_X8_body : GoodIn wsL_law wsX8_body := goodIn_r _ [889, 29, 890, 891, 129, 130, 131, 2, 132, 33, 133, 1024, 1025, 1026, 1027, 1028, 1029, 1030, 1031, 1083, 1084, 1085, 1086, 1087, 1088] (by decide +kernel) (by decide +kernel)
set_option maxRecDepth 20000 in
theorem gL_law_X8_body : GoodIn wsL_law (wsV RL 121 RX8 yX8_body wsX8_body) := goodIn_app (goodIn_of _ (by decide +kernel)) ggL_law_X8_body
set_option maxRecDepth 20000 in
theorem ggL_law_X9_body : GoodIn wsL_law wsX9_body := goodIn_r _ [895, 855, 113, 141, 142, 5, 143, 144, 145, 146, 147, 105, 148, 1032, 1033, 1034, 1035, 1036, 1037, 1038, 1039, 1040, 1041, 1042, 1043, 1044, 1045, 1046, 1047, 1048, 1049, 1050, 1051, 1052, 1053, 1054, 1055, 1056] (by decide +kernel) (by decide +kernel)
set_option maxRecDepth 20000 in
theorem gL_law_X9_body : GoodIn wsL_law (wsV RL 124 RX9 yX9_body wsX9_body) := goodIn_app (goodIn_of _ (by decide +kernel)) ggL_law_X9_body
set_option maxRecDepth 20000 in
theorem ggL_law_X8_sheet : GoodIn wsL_law wsX8_sheet := goodIn_r _ [899, 31, 738, 739, 2, 740, 126, 127, 128, 129, 130, 131, 132, 33, 133, 900, 901, 902, 35, 903, 745, 904, 97, 905, 491, 492, 493, 1024, 1025, 1026, 1027, 1028, 1029, 1030, 1031, 1089, 1090, 1091] (by decide +kernel) (by decide +kernel)
set_option maxRecDepth 20000 in
theorem gL_law_X8_sheet : GoodIn wsL_law (wsV RL 125 RX8 yX8_sheet wsX8_sheet) := goodIn_app (goodIn_of _ (by decide +kernel)) ggL_law_X8_sheet
set_option maxRecDepth 20000 in
theorem ggL_law_X9_sheet : GoodIn wsL_law wsX9_sheet := goodIn_r _ [909, 114, 115, 116, 763, 764, 5, 765, 141, 142, 143, 144, 145, 146, 147, 105, 148, 1032, 1033, 1034, 1035, 1036, 1037, 1038, 1039, 1040, 1041, 1042, 1043, 1044, 1045, 1046, 1047, 1048, 1049, 1050, 1051, 1052, 1053, 1054, 1055, 1056] (by decide +kernel) (by decide +kernel)
set_option maxRecDepth 20000 in
theorem gL_law_X9_sheet : GoodIn wsL_law (wsV RL 128 RX9 yX9_sheet wsX9_sheet) := goodIn_app (goodIn_of _ (by decide +kernel)) ggL_law_X9_sheet
set_option maxRecDepth 20000 in
theorem ggL_law_X8_put : GoodIn wsL_law wsX8_put := goodIn_r _ [913, 31, 914, 915, 738, 739, 2, 740, 126, 127, 128, 129, 130, 131, 132, 33, 133, 741, 742, 743, 35, 744, 745, 916, 917, 918, 919, 1024, 1025, 1026, 1027, 1028, 1029, 1030, 1031, 1089, 1090, 1091] (by decide +kernel) (by decide +kernel)
set_option maxRecDepth 20000 in
theorem gL_law_X8_put : GoodIn wsL_law (wsV RL 129 RX8 yX8_put wsX8_put) := goodIn_app (goodIn_of _ (by decide +kernel)) ggL_law_X8_put
set_option maxRecDepth 20000 in
theorem ggL_law_X9_put : GoodIn wsL_law wsX9_put := goodIn_r _ [923, 114, 115, 116, 763, 764, 5, 765, 141, 142, 143, 144, 145, 146, 147, 105, 148, 1032, 1033, 1034, 1035, 1036, 1037, 1038, 1039, 1040, 1041, 1042, 1043, 1044, 1045, 1046, 1047, 1048, 1049, 1050, 1051, 1052, 1053, 1054, 1055, 1056] (by decide +kernel) (by decide +kernel)
set_option maxRecDepth 20000 in
theorem gL_law_X9_put : GoodIn wsL_law (wsV RL 132 RX9 yX9_put wsX9_put) := goodIn_app (goodIn_of _ (by decide +kernel)) ggL_law_X9_put
set_option maxRecDepth 20000 in
theorem ggL_law_X8_move : GoodIn wsL_law wsX8_move := goodIn_r _ [927, 31, 928, 915, 929, 358, 359, 360, 738, 739, 2, 740, 126, 127, 128, 129, 130, 131, 132, 33, 133, 741, 742, 743, 35, 744, 745, 930, 931, 932, 933, 904, 1024, 1025, 1026, 1027, 1028, 1029, 1030, 1031, 1089, 1090, 1091] (by decide +kernel) (by decide +kernel)
set_option maxRecDepth 20000 in
theorem gL_law_X8_move : GoodIn wsL_law (wsV RL 133 RX8 yX8_move wsX8_move) := goodIn_app (goodIn_of _ (by decide +kernel)) ggL_law_X8_move
set_option maxRecDepth 20000 in
theorem ggL_law_X9_move : GoodIn wsL_law wsX9_move := goodIn_r _ [937, 114, 115, 117, 116, 763, 764, 5, 765, 141, 142, 143, 144, 145, 146, 147, 105, 148, 1032, 1033, 1034, 1035, 1036, 1037, 1038, 1039, 1040, 1041, 1042, 1043, 1044, 1045, 1046, 1047, 1048, 1049, 1050, 1051, 1052, 1053, 1054, 1055, 1056] (by decide +kernel) (by decide +kernel)
set_option maxRecDepth 20000 in
theorem gL_law_X9_move : GoodIn wsL_law (wsV RL 137 RX9 yX9_move wsX9_move) := goodIn_app (goodIn_of _ (by decide +kernel)) ggL_law_X9_move
set_option maxRecDepth 20000 in
theorem ggL_law_X8_markAll : GoodIn wsL_law wsX8_markAll := goodIn_r _ [941, 31, 914, 16, 122, 915, 125, 738, 739, 2, 740, 126, 127, 128, 129, 130, 131, 132, 33, 133, 741, 742, 743, 35, 744, 745, 1024, 1025, 1026, 1027, 1028, 1029, 1030, 1031, 1089, 1090, 1091, 1057, 1058, 1059, 1060, 1061, 1062, 1063, 1064, 1065, 1066, 1067, 1068, 1069] (by decide +kernel) (by decide +kernel)
set_option maxRecDepth 20000 in
theorem gL_law_X8_markAll : GoodIn wsL_law (wsV RL 138 RX8 yX8_markAll wsX8_markAll) := goodIn_app (goodIn_of _ (by decide +kernel)) ggL_law_X8_markAll
set_option maxRecDepth 20000 in
theorem ggL_law_X9_markAll : GoodIn wsL_law wsX9_markAll := goodIn_r _ [945, 115, 102, 116, 946, 947, 948, 5, 949, 114, 763, 764, 765, 141, 142, 143, 144, 145, 146, 147, 105, 148, 149, 150, 151, 152, 1032, 1033, 1034, 1035, 1036, 1037, 1038, 1039, 1040, 1041, 1042, 1043, 1044, 1045, 1046, 1047, 1048, 1049, 1050, 1051, 1052, 1053, 1054, 1055, 1056] (by decide +kernel) (by decide +kernel)
set_option maxRecDepth 20000 in
theorem gL_law_X9_markAll : GoodIn wsL_law (wsV RL 141 RX9 yX9_markAll wsX9_markAll) := goodIn_app (goodIn_of _ (by decide +kernel)) ggL_law_X9_markAll
set_option maxRecDepth 20000 in
theorem ggL_law_X8_judge : GoodIn wsL_law wsX8_judge := goodIn_r _ [953, 31, 914, 16, 122, 915, 125, 738, 739, 2, 740, 126, 127, 128, 129, 130, 131, 132, 33, 133, 741, 742, 743, 35, 744, 745, 1024, 1025, 1026, 1027, 1028, 1029, 1030, 1031, 1089, 1090, 1091, 1057, 1058, 1059, 1060, 1061, 1062, 1063, 1064, 1065, 1066, 1067, 1068, 1069] (by decide +kernel) (by decide +kernel)
set_option maxRecDepth 20000 in
theorem gL_law_X8_judge : GoodIn wsL_law (wsV RL 142 RX8 yX8_judge wsX8_judge) := goodIn_app (goodIn_of _ (by decide +kernel)) ggL_law_X8_judge
set_option maxRecDepth 20000 in
theorem ggL_law_X9_judge : GoodIn wsL_law wsX9_judge := goodIn_r _ [957, 115, 102, 116, 946, 947, 948, 5, 949, 114, 763, 764, 765, 141, 142, 143, 144, 145, 146, 147, 105, 148, 180, 181, 182, 183, 1032, 1033, 1034, 1035, 1036, 1037, 1038, 1039, 1040, 1041, 1042, 1043, 1044, 1045, 1046, 1047, 1048, 1049, 1050, 1051, 1052, 1053, 1054, 1055, 1056] (by decide +kernel) (by decide +kernel)
set_option maxRecDepth 20000 in
theorem gL_law_X9_judge : GoodIn wsL_law (wsV RL 145 RX9 yX9_judge wsX9_judge) := goodIn_app (goodIn_of _ (by decide +kernel)) ggL_law_X9_judge
set_option maxRecDepth 20000 in
theorem ggL_law_X8_image : GoodIn wsL_law wsX8_image := goodIn_r _ [961, 17, 16, 962, 963, 964, 965, 15, 966, 43, 44, 967, 358, 359, 360, 581, 45, 46, 47, 55, 968, 969, 56, 49, 970, 50, 971, 51, 972, 668, 669, 42, 670, 671, 672, 60, 673, 973, 486, 487, 54, 488, 66, 291, 292, 73, 293, 71, 72, 74, 290, 489, 75, 490, 491, 492, 493, 1024, 1025, 1026, 1027, 1028, 1029, 1030, 1031, 1057, 1058, 1059, 1060, 1061, 1062, 1063, 1064, 1065, 1066, 1067, 1068, 1069, 1096, 1097, 1098, 1099, 1100, 1101, 1102, 1092, 1093, 1094, 1095] (by decide +kernel) (by decide +kernel)
set_option maxRecDepth 20000 in
theorem gL_law_X8_image : GoodIn wsL_law (wsV RL 146 RX8 yX8_image wsX8_image) := goodIn_app (goodIn_of _ (by decide +kernel)) ggL_law_X8_image
set_option maxRecDepth 20000 in
theorem ggL_law_X9_image : GoodIn wsL_law wsX9_image := goodIn_r _ [977, 102, 103, 978, 979, 980, 5, 981, 1032, 1033, 1034, 1035, 1036, 1037, 1038, 1039, 1040, 1041, 1042, 1043, 1044, 1045, 1046, 1047, 1048, 1049, 1050, 1051, 1052, 1053, 1054, 1055, 1056] (by decide +kernel) (by decide +kernel)
set_option maxRecDepth 20000 in
theorem gL_law_X9_image : GoodIn wsL_law (wsV RL 149 RX9 yX9_image wsX9_image) := goodIn_app (goodIn_of _ (by decide +kernel)) ggL_law_X9_image
set_option maxRecDepth 20000 in
theorem ggL_law_X8_restore : GoodIn wsL_law wsX8_restore := goodIn_r _ [985, 962, 16, 17, 157, 568, 129, 130, 131, 2, 132, 33, 133, 963, 964, 965, 15, 966, 43, 44, 967, 358, 359, 360, 581, 45, 46, 47, 55, 968, 969, 56, 49, 970, 50, 971, 51, 972, 668, 669, 42, 670, 671, 672, 60, 673, 973, 486, 487, 54, 488, 66, 291, 292, 73, 293, 71, 72, 74, 290, 489, 75, 490, 491, 492, 493, 1024, 1025, 1026, 1027, 1028, 1029, 1030, 1031, 1057, 1058, 1059, 1060, 1061, 1062, 1063, 1064, 1065, 1066, 1067, 1068, 1069, 1092, 1093, 1094, 1095, 1096, 1097, 1098, 1099, 1100, 1101, 1102] (by decide +kernel) (by decide +kernel)
set_option maxRecDepth 20000 in
theorem gL_law_X8_restore : GoodIn wsL_law (wsV RL 150 RX8 yX8_restore wsX8_restore) := goodIn_app (goodIn_of _ (by decide +kernel)) ggL_law_X8_restore
set_option maxRecDepth 20000 in
theorem ggL_law_X9_restore : GoodIn wsL_law wsX9_restore := goodIn_r _ [989, 978, 103, 102, 144, 145, 146, 5, 147, 105, 148, 979, 980, 981, 1032, 1033, 1034, 1035, 1036, 1037, 1038, 1039, 1040, 1041, 1042, 1043, 1044, 1045, 1046, 1047, 1048, 1049, 1050, 1051, 1052, 1053, 1054, 1055, 1056] (by decide +kernel) (by decide +kernel)
set_option maxRecDepth 20000 in
theorem gL_law_X9_restore : GoodIn wsL_law (wsV RL 153 RX9 yX9_restore wsX9_restore) := goodIn_app (goodIn_of _ (by decide +kernel)) ggL_law_X9_restore
set_option maxRecDepth 20000 in
theorem ggL_law_X8_tell : GoodIn wsL_law wsX8_tell := goodIn_r _ [993, 16, 994, 995, 129, 130, 131, 2, 132, 33, 133, 1024, 1025, 1026, 1027, 1028, 1029, 1030, 1031, 1057, 1058, 1059, 1060, 1061, 1062, 1063, 1064, 1065, 1066, 1067, 1068, 1069] (by decide +kernel) (by decide +kernel)
set_option maxRecDepth 20000 in
theorem gL_law_X8_tell : GoodIn wsL_law (wsV RL 154 RX8 yX8_tell wsX8_tell) := goodIn_app (goodIn_of _ (by decide +kernel)) ggL_law_X8_tell
set_option maxRecDepth 20000 in
theorem ggL_law_X9_tell : GoodIn wsL_law wsX9_tell := goodIn_r _ [999, 102, 144, 145, 146, 5, 147, 105, 148, 1032, 1033, 1034, 1035, 1036, 1037, 1038, 1039, 1040, 1041, 1042, 1043, 1044, 1045, 1046, 1047, 1048, 1049, 1050, 1051, 1052, 1053, 1054, 1055, 1056] (by decide +kernel) (by decide +kernel)
set_option maxRecDepth 20000 in
theorem gL_law_X9_tell : GoodIn wsL_law (wsV RL 157 RX9 yX9_tell wsX9_tell) := goodIn_app (goodIn_of _ (by decide +kernel)) ggL_law_X9_tell
set_option maxRecDepth 20000 in
theorem ggL_law_X8_check : GoodIn wsL_law wsX8_check := goodIn_r _ [1003, 16, 994, 995, 157, 253, 262, 263, 264, 15, 265, 55, 266, 267, 268, 269, 42, 270, 271, 272, 273, 274, 275, 276, 277, 278, 279, 280, 54, 281, 75, 282, 283, 284, 285, 69, 70, 286, 287, 288, 289, 290, 66, 67, 68, 291, 292, 73, 293, 71, 72, 74, 294, 295, 296, 1024, 1025, 1026, 1027, 1028, 1029, 1030, 1031, 1057, 1058, 1059, 1060, 1061, 1062, 1063, 1064, 1065, 1066, 1067, 1068, 1069, 1092, 1093, 1094, 1095, 1096, 1097, 1098, 1099, 1100, 1101, 1102] (by decide +kernel) (by decide +kernel)
set_option maxRecDepth 20000 in
theorem gL_law_X8_check : GoodIn wsL_law (wsV RL 158 RX8 yX8_check wsX8_check) := goodIn_app (goodIn_of _ (by decide +kernel)) ggL_law_X8_check
set_option maxRecDepth 20000 in
theorem ggL_law_X9_check : GoodIn wsL_law wsX9_check := goodIn_r _ [1007, 102, 301, 302, 303, 5, 304, 305, 306, 307, 308, 309, 310, 311, 312, 313, 314, 315, 107, 316, 317, 318, 319, 320, 321, 322, 323, 108, 324, 325, 326, 327, 328, 329, 1032, 1033, 1034, 1035, 1036, 1037, 1038, 1039, 1040, 1041, 1042, 1043, 1044, 1045, 1046, 1047, 1048, 1049, 1050, 1051, 1052, 1053, 1054, 1055, 1056] (by decide +kernel) (by decide +kernel)
set_option maxRecDepth 20000 in
theorem gL_law_X9_check : GoodIn wsL_law (wsV RL 161 RX9 yX9_check wsX9_check) := goodIn_app (goodIn_of _ (by decide +kernel)) ggL_law_X9_check
set_option maxRecDepth 20000 in
theorem ggL_law_X8_count : GoodIn wsL_law wsX8_count := goodIn_r _ [1011, 16, 122, 157, 568, 226, 238, 334, 994, 29, 890, 652, 598, 599, 600, 15, 601, 581, 47, 129, 130, 131, 2, 132, 33, 133, 1024, 1025, 1026, 1027, 1028, 1029, 1030, 1031, 1057, 1058, 1059, 1060, 1061, 1062, 1063, 1064, 1065, 1066, 1067, 1068, 1069, 1092, 1093, 1094, 1095, 1083, 1084, 1085, 1086, 1087, 1088] (by decide +kernel) (by decide +kernel)
set_option maxRecDepth 20000 in
theorem gL_law_X8_count : GoodIn wsL_law (wsV RL 162 RX8 yX8_count wsX8_count) := goodIn_app (goodIn_of _ (by decide +kernel)) ggL_law_X8_count
set_option maxRecDepth 20000 in
theorem ggL_law_X9_count : GoodIn wsL_law wsX9_count := goodIn_r _ [1015, 102, 855, 622, 623, 624, 5, 625, 180, 181, 182, 183, 144, 145, 146, 147, 105, 148, 1032, 1033, 1034, 1035, 1036, 1037, 1038, 1039, 1040, 1041, 1042, 1043, 1044, 1045, 1046, 1047, 1048, 1049, 1050, 1051, 1052, 1053, 1054, 1055, 1056] (by decide +kernel) (by decide +kernel)
set_option maxRecDepth 20000 in
theorem gL_law_X9_count : GoodIn wsL_law (wsV RL 165 RX9 yX9_count wsX9_count) := goodIn_app (goodIn_of _ (by decide +kernel)) ggL_law_X9_count
set_option maxRecDepth 20000 in
theorem ggL_law_X8_told : GoodIn wsL_law wsX8_told := goodIn_r _ [1019, 33, 129, 130, 131, 2, 132, 133, 1024, 1025, 1026, 1027, 1028, 1029, 1030, 1031] (by decide +kernel) (by decide +kernel)
set_option maxRecDepth 20000 in
theorem gL_law_X8_told : GoodIn wsL_law (wsV RL 166 RX8 yX8_told wsX8_told) := goodIn_app (goodIn_of _ (by decide +kernel)) ggL_law_X8_told
set_option maxRecDepth 20000 in
theorem ggL_law_X9_told : GoodIn wsL_law wsX9_told := goodIn_r _ [1023, 105, 141, 142, 5, 143, 144, 145, 146, 147, 148, 1032, 1033, 1034, 1035, 1036, 1037, 1038, 1039, 1040, 1041, 1042, 1043, 1044, 1045, 1046, 1047, 1048, 1049, 1050, 1051, 1052, 1053, 1054, 1055, 1056] (by decide +kernel) (by decide +kernel)
set_option maxRecDepth 20000 in
theorem gL_law_X9_told : GoodIn wsL_law (wsV RL 169 RX9 yX9_told wsX9_told) := goodIn_app (goodIn_of _ (by decide +kernel)) ggL_law_X9_told
