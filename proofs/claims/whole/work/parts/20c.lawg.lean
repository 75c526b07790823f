/-! THE LAW'S WORDS -/
set_option maxRecDepth 20000 in
theorem ggL_law_X11_sure : GoodIn wsL_law wsX11_sure := goodIn_r _ [996, 997, 134, 135, 2, 136, 512, 225, 226, 142, 143, 144, 963, 964, 965, 966, 967, 145, 146, 147, 148, 14, 971, 972, 973, 974, 975, 976, 1383, 1384, 1385, 1386, 1387, 1388, 1389, 1390, 1391, 1392] (by decide +kernel) (by decide +kernel)
set_option maxRecDepth 20000 in
theorem gL_law_X11_sure : GoodIn wsL_law (wsV RL 123 RX11 yX11_sure wsX11_sure) := goodIn_app (goodIn_of _ (by decide +kernel)) ggL_law_X11_sure
set_option maxRecDepth 20000 in
theorem ggL_law_X12_sure : GoodIn wsL_law wsX12_sure := goodIn_r _ [1001, 1002, 159, 160, 5, 161, 416, 417, 418, 982, 983, 984, 985, 112, 986, 987, 988, 989, 990, 991, 992, 1393, 1394, 1395, 1396, 1397, 1398, 1399, 1400, 1401, 1402, 1403, 1404, 1405, 1406, 1407, 1408, 1409, 1410, 1411, 1412, 1413, 1414, 1415, 1416, 1417, 1418, 1419, 1420, 1421] (by decide +kernel) (by decide +kernel)
set_option maxRecDepth 20000 in
theorem gL_law_X12_sure : GoodIn wsL_law (wsV RL 127 RX12 yX12_sure wsX12_sure) := goodIn_app (goodIn_of _ (by decide +kernel)) ggL_law_X12_sure
set_option maxRecDepth 20000 in
theorem ggL_law_X11_bars : GoodIn wsL_law wsX11_bars := goodIn_r _ [1006, 145, 146, 147, 2, 148, 14, 1383, 1384, 1385, 1386, 1387, 1388, 1389, 1390, 1391, 1392] (by decide +kernel) (by decide +kernel)
set_option maxRecDepth 20000 in
theorem gL_law_X11_bars : GoodIn wsL_law (wsV RL 128 RX11 yX11_bars wsX11_bars) := goodIn_app (goodIn_of _ (by decide +kernel)) ggL_law_X11_bars
set_option maxRecDepth 20000 in
theorem ggL_law_X12_bars : GoodIn wsL_law wsX12_bars := goodIn_r _ [1010, 162, 163, 164, 5, 165, 112, 1393, 1394, 1395, 1396, 1397, 1398, 1399, 1400, 1401, 1402, 1403, 1404, 1405, 1406, 1407, 1408, 1409, 1410, 1411, 1412, 1413, 1414, 1415, 1416, 1417, 1418, 1419, 1420, 1421] (by decide +kernel) (by decide +kernel)
set_option maxRecDepth 20000 in
theorem gL_law_X12_bars : GoodIn wsL_law (wsV RL 131 RX12 yX12_bars wsX12_bars) := goodIn_app (goodIn_of _ (by decide +kernel)) ggL_law_X12_bars
set_option maxRecDepth 20000 in
theorem ggL_law_X11_alike : GoodIn wsL_law wsX11_alike := goodIn_r _ [1014, 36, 512, 225, 2, 226, 145, 146, 147, 148, 14, 1015, 1016, 1017, 72, 1018, 209, 1019, 1020, 1021, 1022, 78, 79, 1023, 337, 231, 338, 1024, 1025, 1026, 1027, 84, 1028, 1029, 1030, 1031, 1383, 1384, 1385, 1386, 1387, 1388, 1389, 1390, 1391, 1392, 1422, 1423, 1424, 1425, 1426, 1427, 1438, 1439, 1440, 1441, 1442, 1443, 1444, 1445, 1446, 1447, 1448, 1449] (by decide +kernel) (by decide +kernel)
set_option maxRecDepth 20000 in
theorem gL_law_X11_alike : GoodIn wsL_law (wsV RL 132 RX11 yX11_alike wsX11_alike) := goodIn_app (goodIn_of _ (by decide +kernel)) ggL_law_X11_alike
set_option maxRecDepth 20000 in
theorem ggL_law_X12_alike : GoodIn wsL_law wsX12_alike := goodIn_r _ [1035, 129, 416, 417, 5, 418, 162, 163, 164, 165, 112, 1036, 1037, 1038, 1039, 910, 911, 912, 1040, 1041, 1042, 1043, 113, 114, 1393, 1394, 1395, 1396, 1397, 1398, 1399, 1400, 1401, 1402, 1403, 1404, 1405, 1406, 1407, 1408, 1409, 1410, 1411, 1412, 1413, 1414, 1415, 1416, 1417, 1418, 1419, 1420, 1421] (by decide +kernel) (by decide +kernel)
set_option maxRecDepth 20000 in
theorem gL_law_X12_alike : GoodIn wsL_law (wsV RL 135 RX12 yX12_alike wsX12_alike) := goodIn_app (goodIn_of _ (by decide +kernel)) ggL_law_X12_alike
set_option maxRecDepth 20000 in
theorem ggL_law_X11_turns : GoodIn wsL_law wsX11_turns := goodIn_r _ [1047, 46, 134, 135, 2, 136, 512, 225, 226, 142, 143, 144, 145, 146, 147, 148, 14, 1048, 1049, 1050, 45, 1051, 100, 102, 760, 761, 762, 763, 764, 205, 206, 72, 207, 78, 208, 198, 199, 200, 79, 80, 81, 82, 83, 209, 210, 211, 212, 765, 766, 767, 768, 1052, 1053, 1054, 1055, 755, 368, 369, 370, 290, 291, 292, 293, 1056, 522, 523, 524, 1057, 1058, 1059, 1060, 1061, 364, 365, 366, 367, 371, 372, 373, 374, 375, 285, 286, 287, 288, 230, 231, 232, 289, 234, 235, 376, 377, 378, 379, 798, 300, 301, 302, 303, 304, 305, 306, 85, 307, 308, 309, 310, 17, 311, 312, 313, 314, 29, 315, 316, 317, 318, 319, 320, 20, 321, 322, 1383, 1384, 1385, 1386, 1387, 1388, 1389, 1390, 1391, 1392, 1431, 1432, 1433, 1434, 1435, 1422, 1423, 1424, 1425, 1426, 1427, 1438, 1439, 1440, 1441, 1442, 1443, 1444, 1445, 1446, 1447, 1448, 1449] (by decide +kernel) (by decide +kernel)
set_option maxRecDepth 20000 in
theorem gL_law_X11_turns : GoodIn wsL_law (wsV RL 136 RX11 yX11_turns wsX11_turns) := goodIn_app (goodIn_of _ (by decide +kernel)) ggL_law_X11_turns
set_option maxRecDepth 20000 in
theorem ggL_law_X12_turns : GoodIn wsL_law wsX12_turns := goodIn_r _ [1065, 119, 426, 129, 116, 115, 159, 160, 5, 161, 416, 417, 418, 162, 163, 164, 165, 112, 778, 779, 780, 781, 419, 420, 421, 422, 423, 424, 113, 114, 117, 118, 425, 427, 428, 429, 430, 431, 124, 432, 433, 434, 435, 1066, 1067, 1068, 1069, 495, 496, 497, 498, 499, 500, 501, 502, 503, 504, 505, 506, 460, 461, 462, 463, 464, 465, 466, 467, 468, 469, 470, 471, 782, 783, 784, 785, 1393, 1394, 1395, 1396, 1397, 1398, 1399, 1400, 1401, 1402, 1403, 1404, 1405, 1406, 1407, 1408, 1409, 1410, 1411, 1412, 1413, 1414, 1415, 1416, 1417, 1418, 1419, 1420, 1421] (by decide +kernel) (by decide +kernel)
set_option maxRecDepth 20000 in
theorem gL_law_X12_turns : GoodIn wsL_law (wsV RL 139 RX12 yX12_turns wsX12_turns) := goodIn_app (goodIn_of _ (by decide +kernel)) ggL_law_X12_turns
set_option maxRecDepth 20000 in
theorem ggL_law_X11_paper : GoodIn wsL_law wsX11_paper := goodIn_r _ [1073, 36, 134, 135, 2, 136, 145, 146, 147, 148, 14, 1074, 890, 891, 72, 892, 209, 605, 606, 607, 35, 608, 68, 225, 226, 1383, 1384, 1385, 1386, 1387, 1388, 1389, 1390, 1391, 1392, 1422, 1423, 1424, 1425, 1426, 1427, 1438, 1439, 1440, 1441, 1442, 1443, 1444, 1445, 1446, 1447, 1448, 1449] (by decide +kernel) (by decide +kernel)
set_option maxRecDepth 20000 in
theorem gL_law_X11_paper : GoodIn wsL_law (wsV RL 140 RX11 yX11_paper wsX11_paper) := goodIn_app (goodIn_of _ (by decide +kernel)) ggL_law_X11_paper
set_option maxRecDepth 20000 in
theorem ggL_law_X12_paper : GoodIn wsL_law wsX12_paper := goodIn_r _ [1078, 129, 159, 160, 5, 161, 162, 163, 164, 165, 112, 697, 698, 699, 700, 117, 1393, 1394, 1395, 1396, 1397, 1398, 1399, 1400, 1401, 1402, 1403, 1404, 1405, 1406, 1407, 1408, 1409, 1410, 1411, 1412, 1413, 1414, 1415, 1416, 1417, 1418, 1419, 1420, 1421] (by decide +kernel) (by decide +kernel)
set_option maxRecDepth 20000 in
theorem gL_law_X12_paper : GoodIn wsL_law (wsV RL 143 RX12 yX12_paper wsX12_paper) := goodIn_app (goodIn_of _ (by decide +kernel)) ggL_law_X12_paper
set_option maxRecDepth 20000 in
theorem ggL_law_X11_fridge : GoodIn wsL_law wsX11_fridge := goodIn_r _ [1082, 1083, 233, 234, 231, 235, 134, 135, 2, 136, 512, 225, 226, 142, 143, 144, 1084, 1085, 1086, 1087, 36, 13, 604, 359, 360, 35, 361, 73, 362, 291, 292, 72, 293, 209, 145, 146, 147, 148, 14, 1088, 1089, 1090, 1091, 1383, 1384, 1385, 1386, 1387, 1388, 1389, 1390, 1391, 1392, 1422, 1423, 1424, 1425, 1426, 1427, 1438, 1439, 1440, 1441, 1442, 1443, 1444, 1445, 1446, 1447, 1448, 1449] (by decide +kernel) (by decide +kernel)
set_option maxRecDepth 20000 in
theorem gL_law_X11_fridge : GoodIn wsL_law (wsV RL 144 RX11 yX11_fridge wsX11_fridge) := goodIn_app (goodIn_of _ (by decide +kernel)) ggL_law_X11_fridge
set_option maxRecDepth 20000 in
theorem ggL_law_X12_fridge : GoodIn wsL_law wsX12_fridge := goodIn_r _ [1095, 1096, 159, 160, 5, 161, 416, 417, 418, 1097, 1098, 1099, 1100, 127, 480, 481, 482, 483, 484, 485, 486, 472, 473, 474, 475, 129, 162, 163, 164, 165, 112, 1101, 1102, 1103, 1104, 910, 911, 912, 1393, 1394, 1395, 1396, 1397, 1398, 1399, 1400, 1401, 1402, 1403, 1404, 1405, 1406, 1407, 1408, 1409, 1410, 1411, 1412, 1413, 1414, 1415, 1416, 1417, 1418, 1419, 1420, 1421] (by decide +kernel) (by decide +kernel)
set_option maxRecDepth 20000 in
theorem gL_law_X12_fridge : GoodIn wsL_law (wsV RL 147 RX12 yX12_fridge wsX12_fridge) := goodIn_app (goodIn_of _ (by decide +kernel)) ggL_law_X12_fridge
set_option maxRecDepth 20000 in
theorem ggL_law_X11_latest : GoodIn wsL_law wsX11_latest := goodIn_r _ [1108, 36, 1109, 1110, 1111, 35, 1112, 73, 1113, 610, 611, 612, 69, 358, 359, 360, 361, 225, 2, 226, 362, 291, 292, 72, 293, 209, 1383, 1384, 1385, 1386, 1387, 1388, 1389, 1390, 1391, 1392, 1422, 1423, 1424, 1425, 1426, 1427, 1438, 1439, 1440, 1441, 1442, 1443, 1444, 1445, 1446, 1447, 1448, 1449] (by decide +kernel) (by decide +kernel)
set_option maxRecDepth 20000 in
theorem gL_law_X11_latest : GoodIn wsL_law (wsV RL 148 RX11 yX11_latest wsX11_latest) := goodIn_app (goodIn_of _ (by decide +kernel)) ggL_law_X11_latest
set_option maxRecDepth 20000 in
theorem ggL_law_X12_latest : GoodIn wsL_law wsX12_latest := goodIn_r _ [1117, 129, 118, 1393, 1394, 1395, 1396, 1397, 1398, 1399, 1400, 1401, 1402, 1403, 1404, 1405, 1406, 1407, 1408, 1409, 1410, 1411, 1412, 1413, 1414, 1415, 1416, 1417, 1418, 1419, 1420, 1421] (by decide +kernel) (by decide +kernel)
set_option maxRecDepth 20000 in
theorem gL_law_X12_latest : GoodIn wsL_law (wsV RL 151 RX12 yX12_latest wsX12_latest) := goodIn_app (goodIn_of _ (by decide +kernel)) ggL_law_X12_latest
set_option maxRecDepth 20000 in
theorem ggL_law_X11_twice : GoodIn wsL_law wsX11_twice := goodIn_r _ [1121, 36, 605, 606, 607, 35, 608, 68, 225, 2, 226, 1383, 1384, 1385, 1386, 1387, 1388, 1389, 1390, 1391, 1392, 1422, 1423, 1424, 1425, 1426, 1427] (by decide +kernel) (by decide +kernel)
set_option maxRecDepth 20000 in
theorem gL_law_X11_twice : GoodIn wsL_law (wsV RL 152 RX11 yX11_twice wsX11_twice) := goodIn_app (goodIn_of _ (by decide +kernel)) ggL_law_X11_twice
set_option maxRecDepth 20000 in
theorem ggL_law_X12_twice : GoodIn wsL_law wsX12_twice := goodIn_r _ [1125, 697, 698, 699, 5, 700, 129, 117, 1393, 1394, 1395, 1396, 1397, 1398, 1399, 1400, 1401, 1402, 1403, 1404, 1405, 1406, 1407, 1408, 1409, 1410, 1411, 1412, 1413, 1414, 1415, 1416, 1417, 1418, 1419, 1420, 1421] (by decide +kernel) (by decide +kernel)
set_option maxRecDepth 20000 in
theorem gL_law_X12_twice : GoodIn wsL_law (wsV RL 155 RX12 yX12_twice wsX12_twice) := goodIn_app (goodIn_of _ (by decide +kernel)) ggL_law_X12_twice
set_option maxRecDepth 20000 in
theorem ggL_law_X11_month : GoodIn wsL_law wsX11_month := goodIn_r _ [1129, 46, 1130, 1131, 1132, 45, 1133, 102, 760, 761, 762, 763, 100, 764, 205, 206, 72, 207, 78, 208, 198, 199, 200, 79, 80, 81, 82, 83, 209, 210, 211, 212, 765, 766, 767, 768, 1057, 1058, 1059, 1060, 755, 368, 369, 370, 290, 291, 292, 293, 1056, 522, 523, 524, 1061, 364, 365, 366, 367, 371, 372, 373, 374, 375, 285, 286, 287, 288, 230, 231, 232, 289, 234, 235, 376, 377, 378, 379, 798, 300, 301, 302, 303, 304, 305, 306, 85, 307, 308, 309, 310, 17, 311, 312, 313, 314, 29, 315, 316, 317, 318, 319, 320, 20, 321, 322, 1383, 1384, 1385, 1386, 1387, 1388, 1389, 1390, 1391, 1392, 1431, 1432, 1433, 1434, 1435, 1438, 1439, 1440, 1441, 1442, 1443, 1444, 1445, 1446, 1447, 1448, 1449, 1422, 1423, 1424, 1425, 1426, 1427] (by decide +kernel) (by decide +kernel)
set_option maxRecDepth 20000 in
theorem gL_law_X11_month : GoodIn wsL_law (wsV RL 156 RX11 yX11_month wsX11_month) := goodIn_app (goodIn_of _ (by decide +kernel)) ggL_law_X11_month
set_option maxRecDepth 20000 in
theorem ggL_law_X12_month : GoodIn wsL_law wsX12_month := goodIn_r _ [1137, 119, 129, 116, 115, 778, 779, 780, 5, 781, 419, 420, 421, 422, 423, 424, 113, 114, 117, 118, 425, 426, 427, 428, 429, 430, 431, 124, 432, 433, 434, 435, 495, 496, 497, 498, 499, 500, 501, 502, 503, 504, 505, 506, 460, 461, 462, 463, 464, 465, 466, 467, 468, 469, 470, 471, 782, 783, 784, 785, 1393, 1394, 1395, 1396, 1397, 1398, 1399, 1400, 1401, 1402, 1403, 1404, 1405, 1406, 1407, 1408, 1409, 1410, 1411, 1412, 1413, 1414, 1415, 1416, 1417, 1418, 1419, 1420, 1421] (by decide +kernel) (by decide +kernel)
set_option maxRecDepth 20000 in
theorem gL_law_X12_month : GoodIn wsL_law (wsV RL 159 RX12 yX12_month wsX12_month) := goodIn_app (goodIn_of _ (by decide +kernel)) ggL_law_X12_month
set_option maxRecDepth 20000 in
theorem ggL_law_X11_swap : GoodIn wsL_law wsX11_swap := goodIn_r _ [1141, 46, 1142, 1143, 1144, 45, 1145, 100, 102, 1146, 791, 792, 793, 760, 761, 762, 763, 764, 205, 206, 72, 207, 78, 208, 198, 199, 200, 79, 80, 81, 82, 83, 209, 210, 211, 212, 765, 766, 767, 768, 794, 795, 796, 797, 798, 300, 301, 302, 303, 304, 305, 306, 289, 234, 231, 235, 85, 290, 291, 292, 293, 307, 308, 309, 310, 17, 311, 312, 313, 314, 29, 315, 316, 317, 318, 319, 320, 20, 321, 322, 1147, 1148, 1149, 1150, 1383, 1384, 1385, 1386, 1387, 1388, 1389, 1390, 1391, 1392, 1431, 1432, 1433, 1434, 1435, 1422, 1423, 1424, 1425, 1426, 1427, 1438, 1439, 1440, 1441, 1442, 1443, 1444, 1445, 1446, 1447, 1448, 1449] (by decide +kernel) (by decide +kernel)
set_option maxRecDepth 20000 in
theorem gL_law_X11_swap : GoodIn wsL_law (wsV RL 160 RX11 yX11_swap wsX11_swap) := goodIn_app (goodIn_of _ (by decide +kernel)) ggL_law_X11_swap
set_option maxRecDepth 20000 in
theorem ggL_law_X12_swap : GoodIn wsL_law wsX12_swap := goodIn_r _ [1154, 129, 808, 809, 810, 5, 811, 119, 807, 778, 779, 780, 781, 419, 420, 421, 422, 423, 424, 113, 114, 115, 116, 117, 118, 425, 426, 427, 428, 429, 430, 431, 124, 432, 433, 434, 435, 460, 461, 462, 463, 464, 465, 466, 467, 468, 469, 470, 471, 782, 783, 784, 785, 1155, 1156, 1157, 1158, 1393, 1394, 1395, 1396, 1397, 1398, 1399, 1400, 1401, 1402, 1403, 1404, 1405, 1406, 1407, 1408, 1409, 1410, 1411, 1412, 1413, 1414, 1415, 1416, 1417, 1418, 1419, 1420, 1421] (by decide +kernel) (by decide +kernel)
set_option maxRecDepth 20000 in
theorem gL_law_X12_swap : GoodIn wsL_law (wsV RL 163 RX12 yX12_swap wsX12_swap) := goodIn_app (goodIn_of _ (by decide +kernel)) ggL_law_X12_swap
set_option maxRecDepth 20000 in
theorem ggL_law_X11_needs : GoodIn wsL_law wsX11_needs := goodIn_r _ [1162, 46, 579, 580, 581, 2, 582, 36, 511, 291, 292, 72, 293, 209, 134, 135, 136, 145, 146, 147, 148, 14, 1163, 1164, 1165, 45, 1166, 102, 756, 757, 758, 759, 760, 761, 762, 763, 100, 764, 205, 206, 207, 78, 208, 198, 199, 200, 79, 80, 81, 82, 83, 210, 211, 212, 765, 766, 767, 768, 769, 285, 286, 287, 288, 230, 231, 232, 289, 234, 235, 290, 770, 304, 305, 306, 85, 307, 308, 309, 310, 17, 311, 312, 313, 314, 29, 315, 316, 317, 318, 319, 320, 20, 321, 322, 1383, 1384, 1385, 1386, 1387, 1388, 1389, 1390, 1391, 1392, 1422, 1423, 1424, 1425, 1426, 1427, 1438, 1439, 1440, 1441, 1442, 1443, 1444, 1445, 1446, 1447, 1448, 1449, 1431, 1432, 1433, 1434, 1435] (by decide +kernel) (by decide +kernel)
set_option maxRecDepth 20000 in
theorem gL_law_X11_needs : GoodIn wsL_law (wsV RL 164 RX11 yX11_needs wsX11_needs) := goodIn_app (goodIn_of _ (by decide +kernel)) ggL_law_X11_needs
set_option maxRecDepth 20000 in
theorem ggL_law_X12_needs : GoodIn wsL_law wsX12_needs := goodIn_r _ [1170, 116, 472, 473, 474, 5, 475, 129, 1171, 1172, 1173, 159, 160, 161, 162, 163, 164, 165, 112, 873, 874, 875, 876, 778, 779, 780, 781, 419, 420, 421, 422, 423, 424, 113, 114, 115, 117, 118, 119, 425, 426, 427, 428, 429, 430, 431, 124, 432, 433, 434, 435, 495, 496, 497, 498, 499, 500, 501, 502, 503, 504, 505, 506, 464, 465, 466, 467, 468, 469, 470, 471, 782, 783, 784, 785, 1393, 1394, 1395, 1396, 1397, 1398, 1399, 1400, 1401, 1402, 1403, 1404, 1405, 1406, 1407, 1408, 1409, 1410, 1411, 1412, 1413, 1414, 1415, 1416, 1417, 1418, 1419, 1420, 1421] (by decide +kernel) (by decide +kernel)
set_option maxRecDepth 20000 in
theorem gL_law_X12_needs : GoodIn wsL_law (wsV RL 167 RX12 yX12_needs wsX12_needs) := goodIn_app (goodIn_of _ (by decide +kernel)) ggL_law_X12_needs
set_option maxRecDepth 20000 in
theorem ggL_law_X11_noWaste : GoodIn wsL_law wsX11_noWaste := goodIn_r _ [1177, 46, 579, 580, 581, 2, 582, 36, 511, 291, 292, 72, 293, 209, 134, 135, 136, 145, 146, 147, 148, 14, 1178, 1179, 1180, 45, 1181, 102, 849, 850, 851, 852, 100, 755, 368, 369, 370, 83, 290, 853, 372, 373, 374, 82, 756, 757, 758, 759, 760, 761, 762, 763, 764, 205, 206, 207, 78, 208, 198, 199, 200, 79, 80, 81, 210, 211, 212, 765, 766, 767, 768, 769, 285, 286, 287, 288, 230, 231, 232, 289, 234, 235, 770, 304, 305, 306, 85, 307, 308, 309, 310, 17, 311, 312, 313, 314, 29, 315, 316, 317, 318, 319, 320, 20, 321, 322, 1383, 1384, 1385, 1386, 1387, 1388, 1389, 1390, 1391, 1392, 1422, 1423, 1424, 1425, 1426, 1427, 1438, 1439, 1440, 1441, 1442, 1443, 1444, 1445, 1446, 1447, 1448, 1449, 1431, 1432, 1433, 1434, 1435] (by decide +kernel) (by decide +kernel)
set_option maxRecDepth 20000 in
theorem gL_law_X11_noWaste : GoodIn wsL_law (wsV RL 168 RX11 yX11_noWaste wsX11_noWaste) := goodIn_app (goodIn_of _ (by decide +kernel)) ggL_law_X11_noWaste
set_option maxRecDepth 20000 in
theorem ggL_law_X12_noWaste : GoodIn wsL_law wsX12_noWaste := goodIn_r _ [1185, 472, 473, 474, 5, 475, 129, 1171, 1172, 1173, 159, 160, 161, 162, 163, 164, 165, 112, 1186, 1187, 1188, 1189, 119, 778, 779, 780, 781, 419, 420, 421, 422, 423, 424, 113, 114, 115, 116, 117, 118, 425, 426, 427, 428, 429, 430, 431, 124, 432, 433, 434, 435, 495, 496, 497, 498, 499, 500, 501, 502, 503, 504, 505, 506, 464, 465, 466, 467, 468, 469, 470, 471, 782, 783, 784, 785, 1393, 1394, 1395, 1396, 1397, 1398, 1399, 1400, 1401, 1402, 1403, 1404, 1405, 1406, 1407, 1408, 1409, 1410, 1411, 1412, 1413, 1414, 1415, 1416, 1417, 1418, 1419, 1420, 1421] (by decide +kernel) (by decide +kernel)
set_option maxRecDepth 20000 in
theorem gL_law_X12_noWaste : GoodIn wsL_law (wsV RL 171 RX12 yX12_noWaste wsX12_noWaste) := goodIn_app (goodIn_of _ (by decide +kernel)) ggL_law_X12_noWaste
set_option maxRecDepth 20000 in
theorem ggL_law_X11_cheapest : GoodIn wsL_law wsX11_cheapest := goodIn_r _ [1193, 46, 145, 146, 147, 2, 148, 14, 854, 855, 856, 45, 857, 100, 99, 858, 846, 847, 848, 102, 849, 850, 851, 852, 755, 368, 369, 72, 370, 83, 290, 291, 292, 293, 209, 853, 372, 373, 374, 82, 756, 757, 758, 759, 760, 761, 762, 763, 764, 205, 206, 207, 78, 208, 198, 199, 200, 79, 80, 81, 210, 211, 212, 765, 766, 767, 768, 769, 285, 286, 287, 288, 230, 231, 232, 289, 234, 235, 770, 304, 305, 306, 85, 307, 308, 309, 310, 17, 311, 312, 313, 314, 29, 315, 316, 317, 318, 319, 320, 20, 321, 322, 859, 377, 378, 379, 1194, 1195, 1196, 1197, 1198, 1199, 1200, 1201, 1383, 1384, 1385, 1386, 1387, 1388, 1389, 1390, 1391, 1392, 1431, 1432, 1433, 1434, 1435, 1422, 1423, 1424, 1425, 1426, 1427, 1438, 1439, 1440, 1441, 1442, 1443, 1444, 1445, 1446, 1447, 1448, 1449] (by decide +kernel) (by decide +kernel)
set_option maxRecDepth 20000 in
theorem gL_law_X11_cheapest : GoodIn wsL_law (wsV RL 172 RX11 yX11_cheapest wsX11_cheapest) := goodIn_app (goodIn_of _ (by decide +kernel)) ggL_law_X11_cheapest
set_option maxRecDepth 20000 in
theorem ggL_law_X12_cheapest : GoodIn wsL_law wsX12_cheapest := goodIn_r _ [1205, 162, 163, 164, 5, 165, 112, 1206, 1207, 1208, 1209, 129, 910, 911, 912, 869, 870, 871, 872, 873, 874, 875, 876, 778, 779, 780, 781, 419, 420, 421, 422, 423, 424, 113, 114, 115, 116, 117, 118, 119, 425, 426, 427, 428, 429, 430, 431, 124, 432, 433, 434, 435, 495, 496, 497, 498, 499, 500, 501, 502, 503, 504, 505, 506, 464, 465, 466, 467, 468, 469, 470, 471, 782, 783, 784, 785, 1393, 1394, 1395, 1396, 1397, 1398, 1399, 1400, 1401, 1402, 1403, 1404, 1405, 1406, 1407, 1408, 1409, 1410, 1411, 1412, 1413, 1414, 1415, 1416, 1417, 1418, 1419, 1420, 1421] (by decide +kernel) (by decide +kernel)
set_option maxRecDepth 20000 in
theorem gL_law_X12_cheapest : GoodIn wsL_law (wsV RL 175 RX12 yX12_cheapest wsX12_cheapest) := goodIn_app (goodIn_of _ (by decide +kernel)) ggL_law_X12_cheapest
set_option maxRecDepth 20000 in
theorem ggL_law_X11_interval : GoodIn wsL_law wsX11_interval := goodIn_r _ [1213, 46, 134, 135, 2, 136, 145, 146, 147, 148, 14, 1214, 1215, 1216, 45, 1217, 1218, 1219, 1220, 1221, 102, 760, 761, 762, 763, 100, 764, 205, 206, 72, 207, 78, 208, 198, 199, 200, 79, 80, 81, 82, 83, 209, 210, 211, 212, 765, 766, 767, 768, 1061, 364, 365, 366, 367, 368, 369, 370, 290, 291, 292, 293, 371, 372, 373, 374, 375, 285, 286, 287, 288, 230, 231, 232, 289, 234, 235, 376, 377, 378, 379, 798, 300, 301, 302, 303, 304, 305, 306, 85, 307, 308, 309, 310, 17, 311, 312, 313, 314, 29, 315, 316, 317, 318, 319, 320, 20, 321, 322, 1383, 1384, 1385, 1386, 1387, 1388, 1389, 1390, 1391, 1392, 1431, 1432, 1433, 1434, 1435, 1438, 1439, 1440, 1441, 1442, 1443, 1444, 1445, 1446, 1447, 1448, 1449, 1422, 1423, 1424, 1425, 1426, 1427] (by decide +kernel) (by decide +kernel)
set_option maxRecDepth 20000 in
theorem gL_law_X11_interval : GoodIn wsL_law (wsV RL 176 RX11 yX11_interval wsX11_interval) := goodIn_app (goodIn_of _ (by decide +kernel)) ggL_law_X11_interval
