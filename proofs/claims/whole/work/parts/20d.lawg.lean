/-! THE LAW'S WORDS -/
set_option maxRecDepth 20000 in
theorem ggL_law_X12_interval : GoodIn wsL_law wsX12_interval := goodIn_r _ [1225, 159, 160, 5, 161, 162, 163, 164, 165, 112, 1226, 1227, 1228, 1229, 119, 129, 778, 779, 780, 781, 419, 420, 421, 422, 423, 424, 113, 114, 115, 116, 117, 118, 425, 426, 427, 428, 429, 430, 431, 124, 432, 433, 434, 435, 495, 496, 497, 498, 499, 500, 501, 502, 503, 504, 505, 506, 460, 461, 462, 463, 464, 465, 466, 467, 468, 469, 470, 471, 782, 783, 784, 785, 1393, 1394, 1395, 1396, 1397, 1398, 1399, 1400, 1401, 1402, 1403, 1404, 1405, 1406, 1407, 1408, 1409, 1410, 1411, 1412, 1413, 1414, 1415, 1416, 1417, 1418, 1419, 1420, 1421] (by decide +kernel) (by decide +kernel)
set_option maxRecDepth 20000 in
theorem gL_law_X12_interval : GoodIn wsL_law (wsV RL 179 RX12 yX12_interval wsX12_interval) := goodIn_app (goodIn_of _ (by decide +kernel)) ggL_law_X12_interval
set_option maxRecDepth 20000 in
theorem ggL_law_X11_skew : GoodIn wsL_law wsX11_skew := goodIn_r _ [1233, 36, 134, 135, 2, 136, 145, 146, 147, 148, 14, 1234, 340, 341, 35, 342, 73, 69, 68, 1383, 1384, 1385, 1386, 1387, 1388, 1389, 1390, 1391, 1392, 1422, 1423, 1424, 1425, 1426, 1427, 1438, 1439, 1440, 1441, 1442, 1443, 1444, 1445, 1446, 1447, 1448, 1449] (by decide +kernel) (by decide +kernel)
set_option maxRecDepth 20000 in
theorem gL_law_X11_skew : GoodIn wsL_law (wsV RL 180 RX11 yX11_skew wsX11_skew) := goodIn_app (goodIn_of _ (by decide +kernel)) ggL_law_X11_skew
set_option maxRecDepth 20000 in
theorem ggL_law_X12_skew : GoodIn wsL_law wsX12_skew := goodIn_r _ [1238, 129, 118, 117, 159, 160, 5, 161, 162, 163, 164, 165, 112, 448, 449, 450, 451, 416, 417, 418, 452, 453, 454, 455, 1393, 1394, 1395, 1396, 1397, 1398, 1399, 1400, 1401, 1402, 1403, 1404, 1405, 1406, 1407, 1408, 1409, 1410, 1411, 1412, 1413, 1414, 1415, 1416, 1417, 1418, 1419, 1420, 1421] (by decide +kernel) (by decide +kernel)
set_option maxRecDepth 20000 in
theorem gL_law_X12_skew : GoodIn wsL_law (wsV RL 183 RX12 yX12_skew wsX12_skew) := goodIn_app (goodIn_of _ (by decide +kernel)) ggL_law_X12_skew
set_option maxRecDepth 20000 in
theorem ggL_law_X11_close : GoodIn wsL_law wsX11_close := goodIn_r _ [1242, 36, 134, 135, 2, 136, 145, 146, 147, 148, 14, 1243, 333, 334, 35, 335, 73, 69, 336, 337, 231, 338, 1244, 1245, 1246, 1247, 1383, 1384, 1385, 1386, 1387, 1388, 1389, 1390, 1391, 1392, 1422, 1423, 1424, 1425, 1426, 1427, 1438, 1439, 1440, 1441, 1442, 1443, 1444, 1445, 1446, 1447, 1448, 1449] (by decide +kernel) (by decide +kernel)
set_option maxRecDepth 20000 in
theorem gL_law_X11_close : GoodIn wsL_law (wsV RL 184 RX11 yX11_close wsX11_close) := goodIn_app (goodIn_of _ (by decide +kernel)) ggL_law_X11_close
set_option maxRecDepth 20000 in
theorem ggL_law_X12_close : GoodIn wsL_law wsX12_close := goodIn_r _ [1251, 129, 118, 159, 160, 5, 161, 162, 163, 164, 165, 112, 416, 417, 418, 1393, 1394, 1395, 1396, 1397, 1398, 1399, 1400, 1401, 1402, 1403, 1404, 1405, 1406, 1407, 1408, 1409, 1410, 1411, 1412, 1413, 1414, 1415, 1416, 1417, 1418, 1419, 1420, 1421] (by decide +kernel) (by decide +kernel)
set_option maxRecDepth 20000 in
theorem gL_law_X12_close : GoodIn wsL_law (wsV RL 187 RX12 yX12_close wsX12_close) := goodIn_app (goodIn_of _ (by decide +kernel)) ggL_law_X12_close
set_option maxRecDepth 20000 in
theorem ggL_law_X11_worth : GoodIn wsL_law wsX11_worth := goodIn_r _ [1255, 36, 1256, 1257, 1258, 72, 1259, 209, 83, 81, 1260, 1261, 1262, 1263, 371, 372, 373, 374, 82, 290, 291, 292, 293, 1383, 1384, 1385, 1386, 1387, 1388, 1389, 1390, 1391, 1392, 1422, 1423, 1424, 1425, 1426, 1427, 1438, 1439, 1440, 1441, 1442, 1443, 1444, 1445, 1446, 1447, 1448, 1449] (by decide +kernel) (by decide +kernel)
set_option maxRecDepth 20000 in
theorem gL_law_X11_worth : GoodIn wsL_law (wsV RL 188 RX11 yX11_worth wsX11_worth) := goodIn_app (goodIn_of _ (by decide +kernel)) ggL_law_X11_worth
set_option maxRecDepth 20000 in
theorem ggL_law_X12_worth : GoodIn wsL_law wsX12_worth := goodIn_r _ [1267, 129, 116, 503, 504, 505, 5, 506, 114, 113, 499, 500, 501, 502, 1393, 1394, 1395, 1396, 1397, 1398, 1399, 1400, 1401, 1402, 1403, 1404, 1405, 1406, 1407, 1408, 1409, 1410, 1411, 1412, 1413, 1414, 1415, 1416, 1417, 1418, 1419, 1420, 1421] (by decide +kernel) (by decide +kernel)
set_option maxRecDepth 20000 in
theorem gL_law_X12_worth : GoodIn wsL_law (wsV RL 191 RX12 yX12_worth wsX12_worth) := goodIn_app (goodIn_of _ (by decide +kernel)) ggL_law_X12_worth
set_option maxRecDepth 20000 in
theorem ggL_law_X11_biscuits : GoodIn wsL_law wsX11_biscuits := goodIn_r _ [1271, 1083, 36, 13, 512, 225, 2, 226, 145, 146, 147, 148, 14, 511, 291, 292, 72, 293, 209, 1272, 1273, 1274, 1275, 1383, 1384, 1385, 1386, 1387, 1388, 1389, 1390, 1391, 1392, 1422, 1423, 1424, 1425, 1426, 1427, 1438, 1439, 1440, 1441, 1442, 1443, 1444, 1445, 1446, 1447, 1448, 1449] (by decide +kernel) (by decide +kernel)
set_option maxRecDepth 20000 in
theorem gL_law_X11_biscuits : GoodIn wsL_law (wsV RL 192 RX11 yX11_biscuits wsX11_biscuits) := goodIn_app (goodIn_of _ (by decide +kernel)) ggL_law_X11_biscuits
set_option maxRecDepth 20000 in
theorem ggL_law_X12_biscuits : GoodIn wsL_law wsX12_biscuits := goodIn_r _ [1279, 128, 1096, 127, 416, 417, 5, 418, 472, 473, 474, 475, 129, 162, 163, 164, 165, 112, 1393, 1394, 1395, 1396, 1397, 1398, 1399, 1400, 1401, 1402, 1403, 1404, 1405, 1406, 1407, 1408, 1409, 1410, 1411, 1412, 1413, 1414, 1415, 1416, 1417, 1418, 1419, 1420, 1421] (by decide +kernel) (by decide +kernel)
set_option maxRecDepth 20000 in
theorem gL_law_X12_biscuits : GoodIn wsL_law (wsV RL 195 RX12 yX12_biscuits wsX12_biscuits) := goodIn_app (goodIn_of _ (by decide +kernel)) ggL_law_X12_biscuits
set_option maxRecDepth 20000 in
theorem ggL_law_X11_lasts : GoodIn wsL_law wsX11_lasts := goodIn_r _ [1283, 46, 134, 135, 2, 136, 145, 146, 147, 148, 14, 1284, 1285, 1286, 45, 1287, 102, 760, 761, 762, 763, 100, 764, 205, 206, 72, 207, 78, 208, 198, 199, 200, 79, 80, 81, 82, 83, 209, 210, 211, 212, 765, 766, 767, 768, 770, 304, 305, 306, 289, 234, 231, 235, 85, 290, 291, 292, 293, 307, 308, 309, 310, 17, 311, 312, 313, 314, 29, 315, 316, 317, 318, 319, 320, 20, 321, 322, 1383, 1384, 1385, 1386, 1387, 1388, 1389, 1390, 1391, 1392, 1431, 1432, 1433, 1434, 1435, 1438, 1439, 1440, 1441, 1442, 1443, 1444, 1445, 1446, 1447, 1448, 1449, 1422, 1423, 1424, 1425, 1426, 1427] (by decide +kernel) (by decide +kernel)
set_option maxRecDepth 20000 in
theorem gL_law_X11_lasts : GoodIn wsL_law (wsV RL 196 RX11 yX11_lasts wsX11_lasts) := goodIn_app (goodIn_of _ (by decide +kernel)) ggL_law_X11_lasts
set_option maxRecDepth 20000 in
theorem ggL_law_X12_lasts : GoodIn wsL_law wsX12_lasts := goodIn_r _ [1291, 159, 160, 5, 161, 162, 163, 164, 165, 112, 778, 779, 780, 781, 419, 420, 421, 422, 423, 424, 113, 114, 115, 116, 117, 118, 119, 129, 425, 426, 427, 428, 429, 430, 431, 124, 432, 433, 434, 435, 1292, 1293, 1294, 1295, 460, 461, 462, 463, 464, 465, 466, 467, 468, 469, 470, 471, 782, 783, 784, 785, 1393, 1394, 1395, 1396, 1397, 1398, 1399, 1400, 1401, 1402, 1403, 1404, 1405, 1406, 1407, 1408, 1409, 1410, 1411, 1412, 1413, 1414, 1415, 1416, 1417, 1418, 1419, 1420, 1421] (by decide +kernel) (by decide +kernel)
set_option maxRecDepth 20000 in
theorem gL_law_X12_lasts : GoodIn wsL_law (wsV RL 199 RX12 yX12_lasts wsX12_lasts) := goodIn_app (goodIn_of _ (by decide +kernel)) ggL_law_X12_lasts
set_option maxRecDepth 20000 in
theorem ggL_law_X11_weekly : GoodIn wsL_law wsX11_weekly := goodIn_r _ [1299, 36, 1300, 1301, 1302, 72, 1303, 209, 80, 82, 81, 1260, 1261, 1262, 1263, 371, 372, 373, 374, 290, 291, 292, 293, 1383, 1384, 1385, 1386, 1387, 1388, 1389, 1390, 1391, 1392, 1422, 1423, 1424, 1425, 1426, 1427, 1438, 1439, 1440, 1441, 1442, 1443, 1444, 1445, 1446, 1447, 1448, 1449] (by decide +kernel) (by decide +kernel)
set_option maxRecDepth 20000 in
theorem gL_law_X11_weekly : GoodIn wsL_law (wsV RL 200 RX11 yX11_weekly wsX11_weekly) := goodIn_app (goodIn_of _ (by decide +kernel)) ggL_law_X11_weekly
set_option maxRecDepth 20000 in
theorem ggL_law_X12_weekly : GoodIn wsL_law wsX12_weekly := goodIn_r _ [1307, 129, 115, 499, 500, 501, 5, 502, 113, 503, 504, 505, 506, 114, 1393, 1394, 1395, 1396, 1397, 1398, 1399, 1400, 1401, 1402, 1403, 1404, 1405, 1406, 1407, 1408, 1409, 1410, 1411, 1412, 1413, 1414, 1415, 1416, 1417, 1418, 1419, 1420, 1421] (by decide +kernel) (by decide +kernel)
set_option maxRecDepth 20000 in
theorem gL_law_X12_weekly : GoodIn wsL_law (wsV RL 203 RX12 yX12_weekly wsX12_weekly) := goodIn_app (goodIn_of _ (by decide +kernel)) ggL_law_X12_weekly
set_option maxRecDepth 20000 in
theorem ggL_law_X11_row : GoodIn wsL_law wsX11_row := goodIn_r _ [1311, 1083, 13, 134, 135, 2, 136, 142, 143, 144, 145, 146, 147, 148, 14, 1383, 1384, 1385, 1386, 1387, 1388, 1389, 1390, 1391, 1392] (by decide +kernel) (by decide +kernel)
set_option maxRecDepth 20000 in
theorem gL_law_X11_row : GoodIn wsL_law (wsV RL 204 RX11 yX11_row wsX11_row) := goodIn_app (goodIn_of _ (by decide +kernel)) ggL_law_X11_row
set_option maxRecDepth 20000 in
theorem ggL_law_X12_row : GoodIn wsL_law wsX12_row := goodIn_r _ [1315, 1096, 127, 159, 160, 5, 161, 162, 163, 164, 165, 112, 1393, 1394, 1395, 1396, 1397, 1398, 1399, 1400, 1401, 1402, 1403, 1404, 1405, 1406, 1407, 1408, 1409, 1410, 1411, 1412, 1413, 1414, 1415, 1416, 1417, 1418, 1419, 1420, 1421] (by decide +kernel) (by decide +kernel)
set_option maxRecDepth 20000 in
theorem gL_law_X12_row : GoodIn wsL_law (wsV RL 207 RX12 yX12_row wsX12_row) := goodIn_app (goodIn_of _ (by decide +kernel)) ggL_law_X12_row
set_option maxRecDepth 20000 in
theorem ggL_law_X11_judge : GoodIn wsL_law wsX11_judge := goodIn_r _ [1319, 36, 1083, 13, 46, 511, 291, 292, 72, 293, 209, 145, 146, 147, 2, 148, 14, 751, 752, 753, 45, 754, 100, 102, 755, 368, 369, 370, 83, 290, 756, 757, 758, 759, 760, 761, 762, 763, 764, 205, 206, 207, 78, 208, 198, 199, 200, 79, 80, 81, 82, 210, 211, 212, 765, 766, 767, 768, 769, 285, 286, 287, 288, 230, 231, 232, 289, 234, 235, 770, 304, 305, 306, 85, 307, 308, 309, 310, 17, 311, 312, 313, 314, 29, 315, 316, 317, 318, 319, 320, 20, 321, 322, 1383, 1384, 1385, 1386, 1387, 1388, 1389, 1390, 1391, 1392, 1422, 1423, 1424, 1425, 1426, 1427, 1438, 1439, 1440, 1441, 1442, 1443, 1444, 1445, 1446, 1447, 1448, 1449, 1431, 1432, 1433, 1434, 1435] (by decide +kernel) (by decide +kernel)
set_option maxRecDepth 20000 in
theorem gL_law_X11_judge : GoodIn wsL_law (wsV RL 208 RX11 yX11_judge wsX11_judge) := goodIn_app (goodIn_of _ (by decide +kernel)) ggL_law_X11_judge
set_option maxRecDepth 20000 in
theorem ggL_law_X12_judge : GoodIn wsL_law wsX12_judge := goodIn_r _ [1323, 1096, 116, 127, 472, 473, 474, 5, 475, 129, 162, 163, 164, 165, 112, 778, 779, 780, 781, 419, 420, 421, 422, 423, 424, 113, 114, 115, 117, 118, 119, 425, 426, 427, 428, 429, 430, 431, 124, 432, 433, 434, 435, 460, 461, 462, 463, 464, 465, 466, 467, 468, 469, 470, 471, 782, 783, 784, 785, 1393, 1394, 1395, 1396, 1397, 1398, 1399, 1400, 1401, 1402, 1403, 1404, 1405, 1406, 1407, 1408, 1409, 1410, 1411, 1412, 1413, 1414, 1415, 1416, 1417, 1418, 1419, 1420, 1421] (by decide +kernel) (by decide +kernel)
set_option maxRecDepth 20000 in
theorem gL_law_X12_judge : GoodIn wsL_law (wsV RL 211 RX12 yX12_judge wsX12_judge) := goodIn_app (goodIn_of _ (by decide +kernel)) ggL_law_X12_judge
set_option maxRecDepth 20000 in
theorem ggL_law_X11_clear : GoodIn wsL_law wsX11_clear := goodIn_r _ [1327, 1083, 1383, 1384, 1385, 1386, 1387, 1388, 1389, 1390, 1391, 1392] (by decide +kernel) (by decide +kernel)
set_option maxRecDepth 20000 in
theorem gL_law_X11_clear : GoodIn wsL_law (wsV RL 212 RX11 yX11_clear wsX11_clear) := goodIn_app (goodIn_of _ (by decide +kernel)) ggL_law_X11_clear
set_option maxRecDepth 20000 in
theorem ggL_law_X12_clear : GoodIn wsL_law wsX12_clear := goodIn_r _ [1331, 1096, 1393, 1394, 1395, 1396, 1397, 1398, 1399, 1400, 1401, 1402, 1403, 1404, 1405, 1406, 1407, 1408, 1409, 1410, 1411, 1412, 1413, 1414, 1415, 1416, 1417, 1418, 1419, 1420, 1421] (by decide +kernel) (by decide +kernel)
set_option maxRecDepth 20000 in
theorem gL_law_X12_clear : GoodIn wsL_law (wsV RL 215 RX12 yX12_clear wsX12_clear) := goodIn_app (goodIn_of _ (by decide +kernel)) ggL_law_X12_clear
set_option maxRecDepth 20000 in
theorem ggL_law_X11_lots : GoodIn wsL_law wsX11_lots := goodIn_r _ [1335, 46, 134, 135, 2, 136, 512, 225, 226, 142, 143, 144, 145, 146, 147, 148, 14, 1336, 1337, 1338, 45, 1339, 102, 1340, 760, 761, 762, 763, 100, 764, 205, 206, 72, 207, 78, 208, 198, 199, 200, 79, 80, 81, 82, 83, 209, 210, 211, 212, 765, 766, 767, 768, 1341, 1342, 1343, 1344, 1345, 1061, 364, 365, 366, 367, 368, 369, 370, 290, 291, 292, 293, 371, 372, 373, 374, 375, 285, 286, 287, 288, 230, 231, 232, 289, 234, 235, 376, 377, 378, 379, 798, 300, 301, 302, 303, 304, 305, 306, 85, 307, 308, 309, 310, 17, 311, 312, 313, 314, 29, 315, 316, 317, 318, 319, 320, 20, 321, 322, 1383, 1384, 1385, 1386, 1387, 1388, 1389, 1390, 1391, 1392, 1431, 1432, 1433, 1434, 1435, 1438, 1439, 1440, 1441, 1442, 1443, 1444, 1445, 1446, 1447, 1448, 1449, 1422, 1423, 1424, 1425, 1426, 1427] (by decide +kernel) (by decide +kernel)
set_option maxRecDepth 20000 in
theorem gL_law_X11_lots : GoodIn wsL_law (wsV RL 216 RX11 yX11_lots wsX11_lots) := goodIn_app (goodIn_of _ (by decide +kernel)) ggL_law_X11_lots
set_option maxRecDepth 20000 in
theorem ggL_law_X12_lots : GoodIn wsL_law wsX12_lots := goodIn_r _ [1349, 119, 129, 1350, 1351, 1352, 159, 160, 5, 161, 416, 417, 418, 162, 163, 164, 165, 112, 778, 779, 780, 781, 419, 420, 421, 422, 423, 424, 113, 114, 115, 116, 117, 118, 425, 426, 427, 428, 429, 430, 431, 124, 432, 433, 434, 435, 495, 496, 497, 498, 499, 500, 501, 502, 503, 504, 505, 506, 460, 461, 462, 463, 464, 465, 466, 467, 468, 469, 470, 471, 782, 783, 784, 785, 1393, 1394, 1395, 1396, 1397, 1398, 1399, 1400, 1401, 1402, 1403, 1404, 1405, 1406, 1407, 1408, 1409, 1410, 1411, 1412, 1413, 1414, 1415, 1416, 1417, 1418, 1419, 1420, 1421] (by decide +kernel) (by decide +kernel)
set_option maxRecDepth 20000 in
theorem gL_law_X12_lots : GoodIn wsL_law (wsV RL 219 RX12 yX12_lots wsX12_lots) := goodIn_app (goodIn_of _ (by decide +kernel)) ggL_law_X12_lots
set_option maxRecDepth 20000 in
theorem ggL_law_X11_image : GoodIn wsL_law wsX11_image := goodIn_r _ [1356, 38, 36, 1357, 384, 194, 195, 35, 196, 73, 68, 197, 198, 199, 200, 69, 201, 202, 203, 204, 205, 206, 72, 207, 78, 208, 79, 80, 81, 82, 83, 209, 210, 211, 212, 1383, 1384, 1385, 1386, 1387, 1388, 1389, 1390, 1391, 1392, 1422, 1423, 1424, 1425, 1426, 1427, 1438, 1439, 1440, 1441, 1442, 1443, 1444, 1445, 1446, 1447, 1448, 1449] (by decide +kernel) (by decide +kernel)
set_option maxRecDepth 20000 in
theorem gL_law_X11_image : GoodIn wsL_law (wsV RL 220 RX11 yX11_image wsX11_image) := goodIn_app (goodIn_of _ (by decide +kernel)) ggL_law_X11_image
set_option maxRecDepth 20000 in
theorem ggL_law_X12_image : GoodIn wsL_law wsX12_image := goodIn_r _ [1361, 1362, 425, 419, 420, 421, 5, 422, 423, 424, 113, 114, 115, 116, 117, 118, 119, 129, 426, 427, 428, 429, 430, 431, 124, 432, 433, 434, 435, 1393, 1394, 1395, 1396, 1397, 1398, 1399, 1400, 1401, 1402, 1403, 1404, 1405, 1406, 1407, 1408, 1409, 1410, 1411, 1412, 1413, 1414, 1415, 1416, 1417, 1418, 1419, 1420, 1421] (by decide +kernel) (by decide +kernel)
set_option maxRecDepth 20000 in
theorem gL_law_X12_image : GoodIn wsL_law (wsV RL 223 RX12 yX12_image wsX12_image) := goodIn_app (goodIn_of _ (by decide +kernel)) ggL_law_X12_image
set_option maxRecDepth 20000 in
theorem ggL_law_X11_restore : GoodIn wsL_law wsX11_restore := goodIn_r _ [1366, 1357, 36, 38, 42, 145, 146, 147, 2, 148, 14, 384, 194, 195, 35, 196, 73, 68, 197, 198, 199, 200, 69, 201, 202, 203, 204, 205, 206, 72, 207, 78, 208, 79, 80, 81, 82, 83, 209, 210, 211, 212, 385, 386, 387, 41, 388, 389, 1383, 1384, 1385, 1386, 1387, 1388, 1389, 1390, 1391, 1392, 1422, 1423, 1424, 1425, 1426, 1427, 1438, 1439, 1440, 1441, 1442, 1443, 1444, 1445, 1446, 1447, 1448, 1449, 1428, 1429, 1430] (by decide +kernel) (by decide +kernel)
set_option maxRecDepth 20000 in
theorem gL_law_X11_restore : GoodIn wsL_law (wsV RL 224 RX11 yX11_restore wsX11_restore) := goodIn_app (goodIn_of _ (by decide +kernel)) ggL_law_X11_restore
set_option maxRecDepth 20000 in
theorem ggL_law_X12_restore : GoodIn wsL_law wsX12_restore := goodIn_r _ [1370, 1362, 396, 425, 162, 163, 164, 5, 165, 112, 419, 420, 421, 422, 423, 424, 113, 114, 115, 116, 117, 118, 119, 129, 426, 427, 428, 429, 430, 431, 124, 432, 433, 434, 435, 1393, 1394, 1395, 1396, 1397, 1398, 1399, 1400, 1401, 1402, 1403, 1404, 1405, 1406, 1407, 1408, 1409, 1410, 1411, 1412, 1413, 1414, 1415, 1416, 1417, 1418, 1419, 1420, 1421] (by decide +kernel) (by decide +kernel)
set_option maxRecDepth 20000 in
theorem gL_law_X12_restore : GoodIn wsL_law (wsV RL 227 RX12 yX12_restore wsX12_restore) := goodIn_app (goodIn_of _ (by decide +kernel)) ggL_law_X12_restore
set_option maxRecDepth 20000 in
theorem ggL_law_X11_count : GoodIn wsL_law wsX11_count := goodIn_r _ [1374, 14, 36, 50, 1083, 42, 1375, 1376, 1377, 72, 1378, 209, 83, 605, 606, 607, 35, 608, 68, 225, 2, 226, 946, 344, 345, 346, 347, 348, 349, 1383, 1384, 1385, 1386, 1387, 1388, 1389, 1390, 1391, 1392, 1422, 1423, 1424, 1425, 1426, 1427, 1438, 1439, 1440, 1441, 1442, 1443, 1444, 1445, 1446, 1447, 1448, 1449, 1436, 1437, 1428, 1429, 1430] (by decide +kernel) (by decide +kernel)
set_option maxRecDepth 20000 in
theorem gL_law_X11_count : GoodIn wsL_law (wsV RL 228 RX11 yX11_count wsX11_count) := goodIn_app (goodIn_of _ (by decide +kernel)) ggL_law_X11_count
set_option maxRecDepth 20000 in
theorem ggL_law_X12_count : GoodIn wsL_law wsX12_count := goodIn_r _ [1382, 112, 129, 425, 426, 427, 119, 116, 158, 1096, 396, 416, 417, 5, 418, 697, 698, 699, 700, 117, 744, 745, 746, 1393, 1394, 1395, 1396, 1397, 1398, 1399, 1400, 1401, 1402, 1403, 1404, 1405, 1406, 1407, 1408, 1409, 1410, 1411, 1412, 1413, 1414, 1415, 1416, 1417, 1418, 1419, 1420, 1421] (by decide +kernel) (by decide +kernel)
set_option maxRecDepth 20000 in
theorem gL_law_X12_count : GoodIn wsL_law (wsV RL 231 RX12 yX12_count wsX12_count) := goodIn_app (goodIn_of _ (by decide +kernel)) ggL_law_X12_count
