/-! THE LAW'S WORDS -/
set_option maxRecDepth 20000 in
theorem ggL_law_X12_back : GoodIn wsL_law wsX12_back := goodIn_r _ [688, 396, 162, 163, 164, 5, 165, 112, 419, 420, 421, 422, 423, 424, 113, 114, 115, 116, 117, 118, 119, 129, 425, 426, 427, 428, 429, 430, 431, 124, 432, 433, 434, 435, 1393, 1394, 1395, 1396, 1397, 1398, 1399, 1400, 1401, 1402, 1403, 1404, 1405, 1406, 1407, 1408, 1409, 1410, 1411, 1412, 1413, 1414, 1415, 1416, 1417, 1418, 1419, 1420, 1421] (by decide +kernel) (by decide +kernel)
set_option maxRecDepth 20000 in
theorem gL_law_X12_back : GoodIn wsL_law (wsV RL 68 RX12 yX12_back wsX12_back) := goodIn_app (goodIn_of _ (by decide +kernel)) ggL_law_X12_back
set_option maxRecDepth 20000 in
theorem ggL_law_X11_apart : GoodIn wsL_law wsX11_apart := goodIn_r _ [692, 36, 605, 606, 607, 35, 608, 68, 225, 2, 226, 1383, 1384, 1385, 1386, 1387, 1388, 1389, 1390, 1391, 1392, 1422, 1423, 1424, 1425, 1426, 1427] (by decide +kernel) (by decide +kernel)
set_option maxRecDepth 20000 in
theorem gL_law_X11_apart : GoodIn wsL_law (wsV RL 69 RX11 yX11_apart wsX11_apart) := goodIn_app (goodIn_of _ (by decide +kernel)) ggL_law_X11_apart
set_option maxRecDepth 20000 in
theorem ggL_law_X12_apart : GoodIn wsL_law wsX12_apart := goodIn_r _ [696, 697, 698, 699, 5, 700, 129, 117, 1393, 1394, 1395, 1396, 1397, 1398, 1399, 1400, 1401, 1402, 1403, 1404, 1405, 1406, 1407, 1408, 1409, 1410, 1411, 1412, 1413, 1414, 1415, 1416, 1417, 1418, 1419, 1420, 1421] (by decide +kernel) (by decide +kernel)
set_option maxRecDepth 20000 in
theorem gL_law_X12_apart : GoodIn wsL_law (wsV RL 72 RX12 yX12_apart wsX12_apart) := goodIn_app (goodIn_of _ (by decide +kernel)) ggL_law_X12_apart
set_option maxRecDepth 20000 in
theorem ggL_law_X11_joined : GoodIn wsL_law wsX11_joined := goodIn_r _ [704, 36, 512, 225, 2, 226, 145, 146, 147, 148, 14, 705, 329, 330, 35, 331, 68, 332, 333, 334, 335, 73, 69, 336, 337, 231, 338, 339, 340, 341, 342, 706, 707, 708, 709, 328, 710, 711, 712, 713, 1383, 1384, 1385, 1386, 1387, 1388, 1389, 1390, 1391, 1392, 1422, 1423, 1424, 1425, 1426, 1427, 1438, 1439, 1440, 1441, 1442, 1443, 1444, 1445, 1446, 1447, 1448, 1449] (by decide +kernel) (by decide +kernel)
set_option maxRecDepth 20000 in
theorem gL_law_X11_joined : GoodIn wsL_law (wsV RL 73 RX11 yX11_joined wsX11_joined) := goodIn_app (goodIn_of _ (by decide +kernel)) ggL_law_X11_joined
set_option maxRecDepth 20000 in
theorem ggL_law_X12_joined : GoodIn wsL_law wsX12_joined := goodIn_r _ [717, 416, 417, 5, 418, 162, 163, 164, 165, 112, 718, 719, 720, 721, 129, 448, 449, 450, 451, 117, 118, 452, 453, 454, 455, 722, 723, 724, 725, 1393, 1394, 1395, 1396, 1397, 1398, 1399, 1400, 1401, 1402, 1403, 1404, 1405, 1406, 1407, 1408, 1409, 1410, 1411, 1412, 1413, 1414, 1415, 1416, 1417, 1418, 1419, 1420, 1421] (by decide +kernel) (by decide +kernel)
set_option maxRecDepth 20000 in
theorem gL_law_X12_joined : GoodIn wsL_law (wsV RL 76 RX12 yX12_joined wsX12_joined) := goodIn_app (goodIn_of _ (by decide +kernel)) ggL_law_X12_joined
set_option maxRecDepth 20000 in
theorem ggL_law_X11_bestRule : GoodIn wsL_law wsX11_bestRule := goodIn_r _ [729, 36, 512, 225, 2, 226, 145, 146, 147, 148, 14, 730, 731, 732, 35, 733, 734, 707, 708, 709, 339, 340, 341, 342, 73, 69, 68, 328, 329, 330, 331, 332, 333, 334, 335, 336, 337, 231, 338, 343, 344, 345, 346, 347, 348, 349, 735, 711, 712, 713, 1383, 1384, 1385, 1386, 1387, 1388, 1389, 1390, 1391, 1392, 1422, 1423, 1424, 1425, 1426, 1427, 1438, 1439, 1440, 1441, 1442, 1443, 1444, 1445, 1446, 1447, 1448, 1449] (by decide +kernel) (by decide +kernel)
set_option maxRecDepth 20000 in
theorem gL_law_X11_bestRule : GoodIn wsL_law (wsV RL 77 RX11 yX11_bestRule wsX11_bestRule) := goodIn_app (goodIn_of _ (by decide +kernel)) ggL_law_X11_bestRule
set_option maxRecDepth 20000 in
theorem ggL_law_X12_bestRule : GoodIn wsL_law wsX12_bestRule := goodIn_r _ [739, 416, 417, 5, 418, 162, 163, 164, 165, 112, 740, 741, 742, 743, 722, 723, 724, 725, 129, 448, 449, 450, 451, 117, 118, 452, 453, 454, 455, 718, 719, 720, 721, 744, 745, 746, 1393, 1394, 1395, 1396, 1397, 1398, 1399, 1400, 1401, 1402, 1403, 1404, 1405, 1406, 1407, 1408, 1409, 1410, 1411, 1412, 1413, 1414, 1415, 1416, 1417, 1418, 1419, 1420, 1421] (by decide +kernel) (by decide +kernel)
set_option maxRecDepth 20000 in
theorem gL_law_X12_bestRule : GoodIn wsL_law (wsV RL 80 RX12 yX12_bestRule wsX12_bestRule) := goodIn_app (goodIn_of _ (by decide +kernel)) ggL_law_X12_bestRule
set_option maxRecDepth 20000 in
theorem ggL_law_X11_stockIn : GoodIn wsL_law wsX11_stockIn := goodIn_r _ [750, 46, 579, 580, 581, 2, 582, 36, 511, 291, 292, 72, 293, 209, 134, 135, 136, 145, 146, 147, 148, 14, 751, 752, 753, 45, 754, 100, 102, 755, 368, 369, 370, 83, 290, 756, 757, 758, 759, 760, 761, 762, 763, 764, 205, 206, 207, 78, 208, 198, 199, 200, 79, 80, 81, 82, 210, 211, 212, 765, 766, 767, 768, 769, 285, 286, 287, 288, 230, 231, 232, 289, 234, 235, 770, 304, 305, 306, 85, 307, 308, 309, 310, 17, 311, 312, 313, 314, 29, 315, 316, 317, 318, 319, 320, 20, 321, 322, 1383, 1384, 1385, 1386, 1387, 1388, 1389, 1390, 1391, 1392, 1422, 1423, 1424, 1425, 1426, 1427, 1438, 1439, 1440, 1441, 1442, 1443, 1444, 1445, 1446, 1447, 1448, 1449, 1431, 1432, 1433, 1434, 1435] (by decide +kernel) (by decide +kernel)
set_option maxRecDepth 20000 in
theorem gL_law_X11_stockIn : GoodIn wsL_law (wsV RL 81 RX11 yX11_stockIn wsX11_stockIn) := goodIn_app (goodIn_of _ (by decide +kernel)) ggL_law_X11_stockIn
set_option maxRecDepth 20000 in
theorem ggL_law_X12_stockIn : GoodIn wsL_law wsX12_stockIn := goodIn_r _ [774, 116, 472, 473, 474, 5, 475, 129, 775, 776, 777, 159, 160, 161, 162, 163, 164, 165, 112, 778, 779, 780, 781, 419, 420, 421, 422, 423, 424, 113, 114, 115, 117, 118, 119, 425, 426, 427, 428, 429, 430, 431, 124, 432, 433, 434, 435, 460, 461, 462, 463, 464, 465, 466, 467, 468, 469, 470, 471, 782, 783, 784, 785, 1393, 1394, 1395, 1396, 1397, 1398, 1399, 1400, 1401, 1402, 1403, 1404, 1405, 1406, 1407, 1408, 1409, 1410, 1411, 1412, 1413, 1414, 1415, 1416, 1417, 1418, 1419, 1420, 1421] (by decide +kernel) (by decide +kernel)
set_option maxRecDepth 20000 in
theorem gL_law_X12_stockIn : GoodIn wsL_law (wsV RL 84 RX12 yX12_stockIn wsX12_stockIn) := goodIn_app (goodIn_of _ (by decide +kernel)) ggL_law_X12_stockIn
set_option maxRecDepth 20000 in
theorem ggL_law_X11_lacking : GoodIn wsL_law wsX11_lacking := goodIn_r _ [789, 46, 134, 135, 2, 136, 512, 225, 226, 142, 143, 144, 145, 146, 147, 148, 14, 790, 791, 792, 45, 793, 102, 760, 761, 762, 763, 100, 764, 205, 206, 72, 207, 78, 208, 198, 199, 200, 79, 80, 81, 82, 83, 209, 210, 211, 212, 765, 766, 767, 768, 794, 795, 796, 797, 798, 300, 301, 302, 303, 304, 305, 306, 289, 234, 231, 235, 85, 290, 291, 292, 293, 307, 308, 309, 310, 17, 311, 312, 313, 314, 29, 315, 316, 317, 318, 319, 320, 20, 321, 322, 799, 800, 801, 802, 1383, 1384, 1385, 1386, 1387, 1388, 1389, 1390, 1391, 1392, 1431, 1432, 1433, 1434, 1435, 1438, 1439, 1440, 1441, 1442, 1443, 1444, 1445, 1446, 1447, 1448, 1449, 1422, 1423, 1424, 1425, 1426, 1427] (by decide +kernel) (by decide +kernel)
set_option maxRecDepth 20000 in
theorem gL_law_X11_lacking : GoodIn wsL_law (wsV RL 85 RX11 yX11_lacking wsX11_lacking) := goodIn_app (goodIn_of _ (by decide +kernel)) ggL_law_X11_lacking
set_option maxRecDepth 20000 in
theorem ggL_law_X12_lacking : GoodIn wsL_law wsX12_lacking := goodIn_r _ [806, 807, 775, 776, 5, 777, 159, 160, 161, 416, 417, 418, 162, 163, 164, 165, 112, 808, 809, 810, 811, 119, 778, 779, 780, 781, 419, 420, 421, 422, 423, 424, 113, 114, 115, 116, 117, 118, 129, 425, 426, 427, 428, 429, 430, 431, 124, 432, 433, 434, 435, 460, 461, 462, 463, 464, 465, 466, 467, 468, 469, 470, 471, 782, 783, 784, 785, 1393, 1394, 1395, 1396, 1397, 1398, 1399, 1400, 1401, 1402, 1403, 1404, 1405, 1406, 1407, 1408, 1409, 1410, 1411, 1412, 1413, 1414, 1415, 1416, 1417, 1418, 1419, 1420, 1421] (by decide +kernel) (by decide +kernel)
set_option maxRecDepth 20000 in
theorem gL_law_X12_lacking : GoodIn wsL_law (wsV RL 88 RX12 yX12_lacking wsX12_lacking) := goodIn_app (goodIn_of _ (by decide +kernel)) ggL_law_X12_lacking
set_option maxRecDepth 20000 in
theorem ggL_law_X11_runsOut : GoodIn wsL_law wsX11_runsOut := goodIn_r _ [815, 36, 46, 511, 291, 292, 72, 293, 209, 816, 817, 818, 45, 819, 102, 760, 761, 762, 763, 100, 764, 205, 206, 207, 78, 208, 198, 199, 200, 79, 80, 81, 82, 83, 210, 211, 212, 765, 766, 767, 768, 770, 304, 305, 306, 289, 234, 231, 235, 85, 290, 307, 308, 309, 310, 17, 311, 312, 313, 314, 29, 315, 316, 317, 318, 319, 320, 20, 321, 322, 145, 146, 147, 2, 148, 14, 1383, 1384, 1385, 1386, 1387, 1388, 1389, 1390, 1391, 1392, 1422, 1423, 1424, 1425, 1426, 1427, 1438, 1439, 1440, 1441, 1442, 1443, 1444, 1445, 1446, 1447, 1448, 1449, 1431, 1432, 1433, 1434, 1435] (by decide +kernel) (by decide +kernel)
set_option maxRecDepth 20000 in
theorem gL_law_X11_runsOut : GoodIn wsL_law (wsV RL 89 RX11 yX11_runsOut wsX11_runsOut) := goodIn_app (goodIn_of _ (by decide +kernel)) ggL_law_X11_runsOut
set_option maxRecDepth 20000 in
theorem ggL_law_X12_runsOut : GoodIn wsL_law wsX12_runsOut := goodIn_r _ [823, 472, 473, 474, 5, 475, 129, 824, 825, 826, 827, 778, 779, 780, 781, 419, 420, 421, 422, 423, 424, 113, 114, 115, 116, 117, 118, 119, 425, 426, 427, 428, 429, 430, 431, 124, 432, 433, 434, 435, 464, 465, 466, 467, 468, 469, 470, 471, 782, 783, 784, 785, 162, 163, 164, 165, 112, 1393, 1394, 1395, 1396, 1397, 1398, 1399, 1400, 1401, 1402, 1403, 1404, 1405, 1406, 1407, 1408, 1409, 1410, 1411, 1412, 1413, 1414, 1415, 1416, 1417, 1418, 1419, 1420, 1421] (by decide +kernel) (by decide +kernel)
set_option maxRecDepth 20000 in
theorem gL_law_X12_runsOut : GoodIn wsL_law (wsV RL 92 RX12 yX12_runsOut wsX12_runsOut) := goodIn_app (goodIn_of _ (by decide +kernel)) ggL_law_X12_runsOut
set_option maxRecDepth 20000 in
theorem ggL_law_X11_firstOut : GoodIn wsL_law wsX11_firstOut := goodIn_r _ [831, 46, 832, 833, 834, 45, 835, 100, 836, 817, 818, 819, 102, 760, 761, 762, 763, 764, 205, 206, 72, 207, 78, 208, 198, 199, 200, 79, 80, 81, 82, 83, 209, 210, 211, 212, 765, 766, 767, 768, 770, 304, 305, 306, 289, 234, 231, 235, 85, 290, 291, 292, 293, 307, 308, 309, 310, 17, 311, 312, 313, 314, 29, 315, 316, 317, 318, 319, 320, 20, 321, 322, 1383, 1384, 1385, 1386, 1387, 1388, 1389, 1390, 1391, 1392, 1431, 1432, 1433, 1434, 1435, 1422, 1423, 1424, 1425, 1426, 1427, 1438, 1439, 1440, 1441, 1442, 1443, 1444, 1445, 1446, 1447, 1448, 1449] (by decide +kernel) (by decide +kernel)
set_option maxRecDepth 20000 in
theorem gL_law_X11_firstOut : GoodIn wsL_law (wsV RL 93 RX11 yX11_firstOut wsX11_firstOut) := goodIn_app (goodIn_of _ (by decide +kernel)) ggL_law_X11_firstOut
set_option maxRecDepth 20000 in
theorem ggL_law_X12_firstOut : GoodIn wsL_law wsX12_firstOut := goodIn_r _ [840, 129, 824, 825, 826, 5, 827, 778, 779, 780, 781, 419, 420, 421, 422, 423, 424, 113, 114, 115, 116, 117, 118, 119, 425, 426, 427, 428, 429, 430, 431, 124, 432, 433, 434, 435, 464, 465, 466, 467, 468, 469, 470, 471, 782, 783, 784, 785, 1393, 1394, 1395, 1396, 1397, 1398, 1399, 1400, 1401, 1402, 1403, 1404, 1405, 1406, 1407, 1408, 1409, 1410, 1411, 1412, 1413, 1414, 1415, 1416, 1417, 1418, 1419, 1420, 1421] (by decide +kernel) (by decide +kernel)
set_option maxRecDepth 20000 in
theorem gL_law_X12_firstOut : GoodIn wsL_law (wsV RL 96 RX12 yX12_firstOut wsX12_firstOut) := goodIn_app (goodIn_of _ (by decide +kernel)) ggL_law_X12_firstOut
set_option maxRecDepth 20000 in
theorem ggL_law_X11_buyFor : GoodIn wsL_law wsX11_buyFor := goodIn_r _ [844, 46, 134, 135, 2, 136, 579, 580, 581, 582, 36, 511, 291, 292, 72, 293, 209, 145, 146, 147, 148, 14, 845, 846, 847, 45, 848, 102, 849, 850, 851, 852, 100, 755, 368, 369, 370, 83, 290, 853, 372, 373, 374, 82, 756, 757, 758, 759, 760, 761, 762, 763, 764, 205, 206, 207, 78, 208, 198, 199, 200, 79, 80, 81, 210, 211, 212, 765, 766, 767, 768, 769, 285, 286, 287, 288, 230, 231, 232, 289, 234, 235, 770, 304, 305, 306, 85, 307, 308, 309, 310, 17, 311, 312, 313, 314, 29, 315, 316, 317, 318, 319, 320, 20, 321, 322, 854, 855, 856, 857, 99, 858, 859, 377, 378, 379, 860, 861, 862, 863, 864, 1383, 1384, 1385, 1386, 1387, 1388, 1389, 1390, 1391, 1392, 1422, 1423, 1424, 1425, 1426, 1427, 1438, 1439, 1440, 1441, 1442, 1443, 1444, 1445, 1446, 1447, 1448, 1449, 1431, 1432, 1433, 1434, 1435] (by decide +kernel) (by decide +kernel)
set_option maxRecDepth 20000 in
theorem gL_law_X11_buyFor : GoodIn wsL_law (wsV RL 97 RX11 yX11_buyFor wsX11_buyFor) := goodIn_app (goodIn_of _ (by decide +kernel)) ggL_law_X11_buyFor
set_option maxRecDepth 20000 in
theorem ggL_law_X12_buyFor : GoodIn wsL_law wsX12_buyFor := goodIn_r _ [868, 129, 472, 473, 474, 5, 475, 159, 160, 161, 162, 163, 164, 165, 112, 869, 870, 871, 872, 873, 874, 875, 876, 778, 779, 780, 781, 419, 420, 421, 422, 423, 424, 113, 114, 115, 116, 117, 118, 119, 425, 426, 427, 428, 429, 430, 431, 124, 432, 433, 434, 435, 495, 496, 497, 498, 499, 500, 501, 502, 503, 504, 505, 506, 464, 465, 466, 467, 468, 469, 470, 471, 782, 783, 784, 785, 1393, 1394, 1395, 1396, 1397, 1398, 1399, 1400, 1401, 1402, 1403, 1404, 1405, 1406, 1407, 1408, 1409, 1410, 1411, 1412, 1413, 1414, 1415, 1416, 1417, 1418, 1419, 1420, 1421] (by decide +kernel) (by decide +kernel)
set_option maxRecDepth 20000 in
theorem gL_law_X12_buyFor : GoodIn wsL_law (wsV RL 100 RX12 yX12_buyFor wsX12_buyFor) := goodIn_app (goodIn_of _ (by decide +kernel)) ggL_law_X12_buyFor
set_option maxRecDepth 20000 in
theorem ggL_law_X11_order : GoodIn wsL_law wsX11_order := goodIn_r _ [880, 46, 134, 135, 2, 136, 512, 225, 226, 142, 143, 144, 145, 146, 147, 148, 14, 881, 882, 883, 45, 884, 100, 885, 886, 887, 888, 97, 102, 98, 849, 850, 851, 852, 755, 368, 369, 72, 370, 83, 290, 291, 292, 293, 209, 853, 372, 373, 374, 82, 756, 757, 758, 759, 760, 761, 762, 763, 764, 205, 206, 207, 78, 208, 198, 199, 200, 79, 80, 81, 210, 211, 212, 765, 766, 767, 768, 769, 285, 286, 287, 288, 230, 231, 232, 289, 234, 235, 770, 304, 305, 306, 85, 307, 308, 309, 310, 17, 311, 312, 313, 314, 29, 315, 316, 317, 318, 319, 320, 20, 321, 322, 889, 890, 891, 892, 893, 894, 895, 896, 859, 377, 378, 379, 897, 898, 899, 900, 901, 1383, 1384, 1385, 1386, 1387, 1388, 1389, 1390, 1391, 1392, 1431, 1432, 1433, 1434, 1435, 1422, 1423, 1424, 1425, 1426, 1427, 1438, 1439, 1440, 1441, 1442, 1443, 1444, 1445, 1446, 1447, 1448, 1449] (by decide +kernel) (by decide +kernel)
set_option maxRecDepth 20000 in
theorem gL_law_X11_order : GoodIn wsL_law (wsV RL 101 RX11 yX11_order wsX11_order) := goodIn_app (goodIn_of _ (by decide +kernel)) ggL_law_X11_order
set_option maxRecDepth 20000 in
theorem ggL_law_X12_order : GoodIn wsL_law wsX12_order := goodIn_r _ [905, 129, 159, 160, 5, 161, 416, 417, 418, 162, 163, 164, 165, 112, 906, 907, 908, 909, 419, 420, 421, 422, 423, 424, 113, 114, 115, 116, 117, 118, 119, 425, 426, 427, 428, 429, 430, 431, 124, 432, 433, 434, 435, 910, 911, 912, 495, 496, 497, 498, 499, 500, 501, 502, 503, 504, 505, 506, 808, 809, 810, 811, 807, 778, 779, 780, 781, 460, 461, 462, 463, 464, 465, 466, 467, 468, 469, 470, 471, 782, 783, 784, 785, 913, 914, 915, 916, 1393, 1394, 1395, 1396, 1397, 1398, 1399, 1400, 1401, 1402, 1403, 1404, 1405, 1406, 1407, 1408, 1409, 1410, 1411, 1412, 1413, 1414, 1415, 1416, 1417, 1418, 1419, 1420, 1421] (by decide +kernel) (by decide +kernel)
set_option maxRecDepth 20000 in
theorem gL_law_X12_order : GoodIn wsL_law (wsV RL 104 RX12 yX12_order wsX12_order) := goodIn_app (goodIn_of _ (by decide +kernel)) ggL_law_X12_order
set_option maxRecDepth 20000 in
theorem ggL_law_X11_unheard : GoodIn wsL_law wsX11_unheard := goodIn_r _ [920, 36, 511, 291, 292, 72, 293, 209, 921, 227, 2, 228, 229, 230, 231, 232, 233, 234, 235, 134, 135, 136, 512, 225, 226, 142, 143, 144, 145, 146, 147, 148, 14, 922, 923, 924, 925, 926, 534, 535, 536, 521, 522, 523, 524, 80, 290, 529, 530, 531, 532, 85, 78, 376, 377, 378, 379, 81, 537, 538, 539, 540, 541, 26, 542, 543, 544, 545, 20, 546, 547, 252, 548, 17, 549, 550, 23, 551, 552, 553, 554, 555, 556, 32, 557, 1383, 1384, 1385, 1386, 1387, 1388, 1389, 1390, 1391, 1392, 1422, 1423, 1424, 1425, 1426, 1427, 1438, 1439, 1440, 1441, 1442, 1443, 1444, 1445, 1446, 1447, 1448, 1449] (by decide +kernel) (by decide +kernel)
set_option maxRecDepth 20000 in
theorem gL_law_X11_unheard : GoodIn wsL_law (wsV RL 105 RX11 yX11_unheard wsX11_unheard) := goodIn_app (goodIn_of _ (by decide +kernel)) ggL_law_X11_unheard
set_option maxRecDepth 20000 in
theorem ggL_law_X12_unheard : GoodIn wsL_law wsX12_unheard := goodIn_r _ [930, 472, 473, 474, 5, 475, 129, 931, 932, 933, 416, 417, 418, 162, 163, 164, 165, 112, 934, 935, 936, 937, 562, 563, 564, 565, 115, 113, 503, 504, 505, 506, 114, 1393, 1394, 1395, 1396, 1397, 1398, 1399, 1400, 1401, 1402, 1403, 1404, 1405, 1406, 1407, 1408, 1409, 1410, 1411, 1412, 1413, 1414, 1415, 1416, 1417, 1418, 1419, 1420, 1421] (by decide +kernel) (by decide +kernel)
set_option maxRecDepth 20000 in
theorem gL_law_X12_unheard : GoodIn wsL_law (wsV RL 109 RX12 yX12_unheard wsX12_unheard) := goodIn_app (goodIn_of _ (by decide +kernel)) ggL_law_X12_unheard
set_option maxRecDepth 20000 in
theorem ggL_law_X11_game : GoodIn wsL_law wsX11_game := goodIn_r _ [941, 36, 511, 291, 292, 72, 293, 209, 145, 146, 147, 2, 148, 14, 942, 943, 944, 945, 946, 344, 345, 346, 347, 348, 349, 926, 534, 535, 536, 521, 522, 523, 524, 80, 290, 529, 530, 531, 532, 85, 78, 376, 377, 378, 379, 81, 537, 538, 539, 540, 541, 26, 542, 543, 544, 545, 20, 546, 547, 252, 548, 17, 549, 550, 23, 551, 552, 553, 554, 555, 556, 32, 557, 1383, 1384, 1385, 1386, 1387, 1388, 1389, 1390, 1391, 1392, 1422, 1423, 1424, 1425, 1426, 1427, 1438, 1439, 1440, 1441, 1442, 1443, 1444, 1445, 1446, 1447, 1448, 1449] (by decide +kernel) (by decide +kernel)
set_option maxRecDepth 20000 in
theorem gL_law_X11_game : GoodIn wsL_law (wsV RL 110 RX11 yX11_game wsX11_game) := goodIn_app (goodIn_of _ (by decide +kernel)) ggL_law_X11_game
set_option maxRecDepth 20000 in
theorem ggL_law_X12_game : GoodIn wsL_law wsX12_game := goodIn_r _ [950, 472, 473, 474, 5, 475, 129, 162, 163, 164, 165, 112, 744, 745, 746, 562, 563, 564, 565, 115, 113, 503, 504, 505, 506, 114, 1393, 1394, 1395, 1396, 1397, 1398, 1399, 1400, 1401, 1402, 1403, 1404, 1405, 1406, 1407, 1408, 1409, 1410, 1411, 1412, 1413, 1414, 1415, 1416, 1417, 1418, 1419, 1420, 1421] (by decide +kernel) (by decide +kernel)
set_option maxRecDepth 20000 in
theorem gL_law_X12_game : GoodIn wsL_law (wsV RL 113 RX12 yX12_game wsX12_game) := goodIn_app (goodIn_of _ (by decide +kernel)) ggL_law_X12_game
set_option maxRecDepth 20000 in
theorem ggL_law_X11_all : GoodIn wsL_law wsX11_all := goodIn_r _ [954, 36, 229, 230, 231, 232, 921, 227, 2, 228, 233, 234, 235, 134, 135, 136, 512, 225, 226, 142, 143, 144, 145, 146, 147, 148, 14, 922, 923, 924, 925, 926, 534, 535, 72, 536, 521, 522, 523, 524, 80, 290, 291, 292, 293, 209, 529, 530, 531, 532, 85, 78, 376, 377, 378, 379, 81, 537, 538, 539, 540, 541, 26, 542, 543, 544, 545, 20, 546, 547, 252, 548, 17, 549, 550, 23, 551, 552, 553, 554, 555, 556, 32, 557, 1383, 1384, 1385, 1386, 1387, 1388, 1389, 1390, 1391, 1392, 1422, 1423, 1424, 1425, 1426, 1427, 1438, 1439, 1440, 1441, 1442, 1443, 1444, 1445, 1446, 1447, 1448, 1449] (by decide +kernel) (by decide +kernel)
set_option maxRecDepth 20000 in
theorem gL_law_X11_all : GoodIn wsL_law (wsV RL 114 RX11 yX11_all wsX11_all) := goodIn_app (goodIn_of _ (by decide +kernel)) ggL_law_X11_all
set_option maxRecDepth 20000 in
theorem ggL_law_X12_all : GoodIn wsL_law wsX12_all := goodIn_r _ [958, 129, 931, 932, 5, 933, 416, 417, 418, 162, 163, 164, 165, 112, 934, 935, 936, 937, 562, 563, 564, 565, 115, 113, 503, 504, 505, 506, 114, 1393, 1394, 1395, 1396, 1397, 1398, 1399, 1400, 1401, 1402, 1403, 1404, 1405, 1406, 1407, 1408, 1409, 1410, 1411, 1412, 1413, 1414, 1415, 1416, 1417, 1418, 1419, 1420, 1421] (by decide +kernel) (by decide +kernel)
set_option maxRecDepth 20000 in
theorem gL_law_X12_all : GoodIn wsL_law (wsV RL 117 RX12 yX12_all wsX12_all) := goodIn_app (goodIn_of _ (by decide +kernel)) ggL_law_X12_all
set_option maxRecDepth 20000 in
theorem ggL_law_X11_flour : GoodIn wsL_law wsX11_flour := goodIn_r _ [962, 963, 964, 965, 2, 966, 967, 145, 146, 147, 148, 14, 512, 225, 226, 968, 969, 970, 971, 972, 973, 974, 975, 976, 1383, 1384, 1385, 1386, 1387, 1388, 1389, 1390, 1391, 1392] (by decide +kernel) (by decide +kernel)
set_option maxRecDepth 20000 in
theorem gL_law_X11_flour : GoodIn wsL_law (wsV RL 118 RX11 yX11_flour wsX11_flour) := goodIn_app (goodIn_of _ (by decide +kernel)) ggL_law_X11_flour
set_option maxRecDepth 20000 in
theorem ggL_law_X12_flour : GoodIn wsL_law wsX12_flour := goodIn_r _ [980, 126, 981, 416, 417, 5, 418, 982, 983, 984, 985, 112, 986, 987, 988, 989, 990, 991, 992, 1393, 1394, 1395, 1396, 1397, 1398, 1399, 1400, 1401, 1402, 1403, 1404, 1405, 1406, 1407, 1408, 1409, 1410, 1411, 1412, 1413, 1414, 1415, 1416, 1417, 1418, 1419, 1420, 1421] (by decide +kernel) (by decide +kernel)
set_option maxRecDepth 20000 in
theorem gL_law_X12_flour : GoodIn wsL_law (wsV RL 122 RX12 yX12_flour wsX12_flour) := goodIn_app (goodIn_of _ (by decide +kernel)) ggL_law_X12_flour
